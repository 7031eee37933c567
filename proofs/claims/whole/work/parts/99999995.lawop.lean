/-! ===== lawop ===== -/
section
/-! each case of the law -/
theorem BUD.of {b b' c9 d9 m9 e9 : Int} {F : Nat} {fd : Bool} (h1 : c9 + 1 + b' + m9 ≤ b + 520) (h2 : d9 + 6 + 130 * b' + e9 ≤ 130 * b + 7100) : BUD b b' F fd c9 d9 m9 e9 := by
  refine ⟨h1, ?_⟩
  split
  · omega
  · split <;> omega
theorem BUD.so {b b' c9 d9 m9 e9 : Int} {F : Nat} (h1 : c9 + 1 + b' + m9 ≤ b + 520) (h2 : d9 + 6 + 130 * b' + e9 ≤ 130 * b + 7100 + (50 * (F : Int) + (if 410 ≤ F then 8255 else 0))) : BUD b b' F false c9 d9 m9 e9 := ⟨h1, h2⟩
theorem LI.no {h h1 h2 : XH} {s s' : CS} {F N M : Nat} {c9 d9 m9 e9 : Int} (L : LI h s F N M) (C1 : CIR h1 s') (n1 : nxP h1 ≤ nxP h + c9 + 1) (l1 : slP h1 ≤ slP h + d9 + 6) (F2 : xFix h2) (I2 : MIR h2 s') (S2 : xsm (fun c => 53 ≤ c ∧ c ≤ 92) h1 h2) (n2 : xnx h2 ≤ xnx h1 + m9) (l2 : xsl h2 ≤ xsl h1 + e9) (P : PIN s' F) (hm : mC s' ≤ mC s + 60) (B : BUD (bC s).length (bC s').length F false c9 d9 m9 e9) : LI h2 s' F (N + 1) (if 410 ≤ F then M + 1 else M) := LI.aft false L C1 n1 l1 F2 I2 S2 n2 l2 P hm B
theorem LI.fe {h h1 h2 : XH} {s s' : CS} {F N M : Nat} {c9 d9 m9 e9 : Int} (L : LI h s F N M) (C1 : CIR h1 s') (n1 : nxP h1 ≤ nxP h + c9 + 1) (l1 : slP h1 ≤ slP h + d9 + 6) (F2 : xFix h2) (I2 : MIR h2 s') (S2 : xsm (fun c => 53 ≤ c ∧ c ≤ 92) h1 h2) (n2 : xnx h2 ≤ xnx h1 + m9) (l2 : xsl h2 ≤ xsl h1 + e9) (P : PIN s' (F + 1)) (hm : mC s' ≤ mC s + 60) (B : BUD (bC s).length (bC s').length F true c9 d9 m9 e9) : LI h2 s' (F + 1) N M := LI.aft true L C1 n1 l1 F2 I2 S2 n2 l2 P hm B
theorem LI.skip {h : XH} {s : CS} {F N M : Nat} (L : LI h s F N M) : LI h s F (N + 1) M := by
  obtain ⟨c1, c2, c3, c4, ⟨m1, m2⟩, n, l⟩ := L
  have f1 : F * (N + 1) = F * N + F := Nat.mul_succ F N
  exact ⟨c1, c2, c3, by omega, ⟨by omega, m2⟩, by omega, by rw [f1]; omega⟩
theorem LI.rm1 {h h1 : XH} {s s' : CS} {F N M : Nat} {c9 d9 : Int} (L : LI h s F N M) (t : F + N ≤ 511) (C1 : CIR h1 s') (n1 : nxP h1 ≤ nxP h + c9 + 1) (l1 : slP h1 ≤ slP h + d9 + 6) (hc : c9 ≤ 1000) (hd : d9 ≤ 10000) : xnx h1 + 200000 ≤ xKC ∧ xsl h1 + 100000 ≤ xKS := by
  obtain ⟨r1, r2⟩ := L.rm (by omega)
  have R : Room h1 200000 100000 := ⟨by omega, by omega⟩
  have := C1.room R
  omega
theorem MIR.clW {h h1 : XH} {s : CS} {o : Int} (F : xFix h) (I : MIR h s) (S : xsm (fun c => CLW h c ∨ c = o) h h1) (ho : o = 91 ∨ o = 92) : MIR h1 s := I.cl F (S.mono (fun c _ w => by
  rcases w with w | w
  · exact Or.inl w
  · exact Or.inr (by omega)))
theorem MIR.clB {h h1 : XH} {s : CS} (F : xFix h) (I : MIR h s) (S : xsm (CLW h) h h1) : MIR h1 s := I.cl F (S.mono (fun c _ w => Or.inl w))
theorem S92 {h1 h2 : XH} (S : xsm (fun c => 53 ≤ c ∧ c ≤ 90) h1 h2) : xsm (fun c => 53 ≤ c ∧ c ≤ 92) h1 h2 := S.mono (fun c _ w => ⟨w.1, by omega⟩)
/-- what the state's parts do -/
theorem pt_feed (s : CS) (a b c i j : Int) : dC (cFeed s a b c i j).2 = dC s ∧ mC (cFeed s a b c i j).2 = mC s ∧ bC (cFeed s a b c i j).2 = bC s := by
  unfold cFeed
  split <;> exact ⟨rfl, rfl, rfl⟩
theorem pt_trim (s : CS) (x : Int) : dC (cTrim s x).2 = dC s ∧ mC (cTrim s x).2 = mC s ∧ bC (cTrim s x).2 = bC s := by
  unfold cTrim
  split <;> exact ⟨rfl, rfl, rfl⟩
theorem pt_add (s : CS) (k sh rk : Int) : dC (cAdd s k sh rk).2 = dC s ∧ mC (cAdd s k sh rk).2 = mC s ∧ (bC (cAdd s k sh rk).2).length ≤ (bC s).length + 1 := by
  unfold cAdd
  split
  · split
    · exact ⟨rfl, rfl, Nat.le_succ _⟩
    · refine ⟨rfl, rfl, ?_⟩
      show (dropB (bC s) k ++ [adT (tC s) k sh rk]).length ≤ (bC s).length + 1
      rw [List.length_append, dropB_len]
      show _ + 1 ≤ _
      split <;> omega
  · exact ⟨rfl, rfl, Nat.le_succ _⟩
theorem pt_takeOut (s : CS) (k : Int) : dC (cTakeOut s k).2 = dC s ∧ mC (cTakeOut s k).2 = mC s ∧ (bC (cTakeOut s k).2).length ≤ (bC s).length := by
  unfold cTakeOut
  split
  · split
    · exact ⟨rfl, rfl, Nat.le_refl _⟩
    · refine ⟨rfl, rfl, ?_⟩
      show (dropB (bC s) k).length ≤ (bC s).length
      rw [dropB_len]
      split <;> omega
  · exact ⟨rfl, rfl, Nat.le_refl _⟩
theorem pt_nearest (s : CS) : dC (cNearest s).2 = dC s ∧ mC (cNearest s).2 = mC s ∧ bC (cNearest s).2 = bC s ∧ (cNearest s).1.1 = 0 := by
  unfold cNearest
  split <;> exact ⟨rfl, rfl, rfl, rfl⟩
theorem pt_ask (s : CS) : mC (cAsk s).2 = mC s ∧ bC (cAsk s).2 = bC s ∧ (cAsk s).1.1 = 0 := by
  unfold cAsk
  split <;> exact ⟨rfl, rfl, rfl⟩
theorem so_k {T : Int} {F : Nat} (e : T = ((10 * F : Nat) : Int)) (h : F ≤ 512) : 0 ≤ kN 64 T 0 ∧ kN 64 T 0 ≤ 130 ∧ 0 ≤ kS 64 T 0 ∧ 4 * T + kS 64 T 0 ≤ 50 * (F : Int) + (if 410 ≤ F then 8255 else 0) + 127 ∧ T ≤ 5120 ∧ 0 ≤ T := by
  unfold kN kS
  by_cases a : T < 44
  · rw [if_pos a, if_pos a]
    split <;> omega
  · rw [if_neg a, if_neg a]
    by_cases b : T ≤ 4096
    · rw [if_pos b, if_pos b, if_pos rfl, if_pos rfl]
      split <;> omega
    · rw [if_neg b, if_neg b, if_pos (by omega)]
      omega
theorem lc_feed {G : XG} {d : Nat} {h : XH} {Q : XV → XH → Prop} {X : Nat → XH → Prop} {n9 : Nat} {xs : Nat → Int32} {nm9 : String} {hq9 : List (Nat × Nat × Nat × Nat)} {s : CS} {F N M : Nat} {x5 : Int} (SC : SCR G n9 xs) (L : LI h s F N M) (t : F + N ≤ 511) (x0 : 0 ≤ x5) (x6 : x5 + 6 ≤ n9) (K : ∀ (h9 : XH) (s9 : CS) (F9 N9 M9 : Nat), LI h9 s9 F9 N9 M9 → F9 + N9 = F + N + 1 → xwp G (m_W_law nm9 hq9) (d + 220) 2018 [xR (-108), xR 0, xR 53, xR 91, xR 92, xI x5, xZ, xZ, xZ] [] h9 Q X) : xwp G (m_W_law nm9 hq9) (d + 220) 208 [xR (-108), xR 0, xR 53, xR 91, xR 92, xI x5, xZ, xZ, xZ] [] h Q X := by
  have nx := L.1.fx.nx
  have n3 := SC.2.2
  have W : CWF s := L.1.wf
  have U : UQ s := L.2.2.1.1
  have m0 := L.2.2.2.1
  have pt := pt_feed s (scV xs (x5 + 1)) (scV xs (x5 + 2)) (scV xs (x5 + 3)) (scV xs (x5 + 4)) (scV xs (x5 + 5))
  refine v_W_law_208 SC L.1.fx ⟨⟨by omega, by omega⟩, by omega, by omega, ⟨by omega, by omega⟩, by omega, by omega, ⟨by omega, by omega⟩, by omega, by omega, ⟨by omega, by omega⟩, by omega, by omega, ⟨by omega, by omega⟩, by omega, by omega, ?_⟩
  refine s_W_feed (n9 := 0) (s9 := 0) L.1 (L.room (by omega) (by decide) (by decide)) (by decide) (by decide) (fun h1 C1 S1 n1 l1 o1 => ?_)
  have I1 := MIR.clW L.1.fx L.2.1 S1 (Or.inl rfl)
  have r1 := L.rm1 t C1 n1 l1 (by first | decide | omega) (by first | decide | omega)
  have nx1 := C1.fx.nx
  refine v_W_law_243 SC C1.fx ⟨⟨by omega, by omega⟩, by omega, by omega, ⟨by omega, by omega⟩, by omega, by omega, ⟨by omega, by omega⟩, by omega, by omega, ⟨by omega, by omega⟩, by omega, by omega, ⟨by omega, by omega⟩, by omega, by omega, ?_⟩
  refine s_M_feed C1.fx I1.1 (by omega) (by omega) (n9 := 1) (s9 := 5) (by decide) (by decide) (MAN.mat (R := (cFeed s (scV xs (x5 + 1)) (scV xs (x5 + 2)) (scV xs (x5 + 3)) (scV xs (x5 + 4)) (scV xs (x5 + 5)))) (fun h2 F2 I2 S2 e0 n2 l2 => ?_) C1.fx I1 pt.1)
  have g := LI.fe L C1 n1 l1 F2 I2 (S92 S2) n2 l2 L.2.2.1.feed (by rw [pt.2.1]; omega) (BUD.of (by rw [pt.2.2]; omega) (by rw [pt.2.2]; omega))
  have k := K h2 _ _ _ _ g (by omega)
  have o2 : xpl h2 91 0 = xpl h1 91 0 := S2.pl (by omega) (by decide) 0
  have cod : (cFeed s (scV xs (x5 + 1)) (scV xs (x5 + 2)) (scV xs (x5 + 3)) (scV xs (x5 + 4)) (scV xs (x5 + 5))).1.1 = 0 ∨ (cFeed s (scV xs (x5 + 1)) (scV xs (x5 + 2)) (scV xs (x5 + 3)) (scV xs (x5 + 4)) (scV xs (x5 + 5))).1.1 ∈ ([2] : List Int) := by
    rcases cod_feed (s := s) (a := scV xs (x5 + 1)) (b := scV xs (x5 + 2)) (c := scV xs (x5 + 3)) (i := scV xs (x5 + 4)) (j := scV xs (x5 + 5)) with y | y <;> rw [y] <;> decide
  exact v_W_law_279 SC F2 ⟨fun _ => ⟨fun z => ⟨fun _ => k, fun y => absurd (o2.trans (o1 (thr_0 z cod))) y⟩, fun _ => k⟩, fun y => absurd e0 y⟩
theorem lc_trim {G : XG} {d : Nat} {h : XH} {Q : XV → XH → Prop} {X : Nat → XH → Prop} {n9 : Nat} {xs : Nat → Int32} {nm9 : String} {hq9 : List (Nat × Nat × Nat × Nat)} {s : CS} {F N M : Nat} {x5 : Int} (SC : SCR G n9 xs) (L : LI h s F N M) (t : F + N ≤ 511) (x0 : 0 ≤ x5) (x6 : x5 + 6 ≤ n9) (K : ∀ (h9 : XH) (s9 : CS) (F9 N9 M9 : Nat), LI h9 s9 F9 N9 M9 → F9 + N9 = F + N + 1 → xwp G (m_W_law nm9 hq9) (d + 220) 2018 [xR (-108), xR 0, xR 53, xR 91, xR 92, xI x5, xZ, xZ, xZ] [] h9 Q X) : xwp G (m_W_law nm9 hq9) (d + 220) 312 [xR (-108), xR 0, xR 53, xR 91, xR 92, xI x5, xZ, xZ, xZ] [] h Q X := by
  have nx := L.1.fx.nx
  have n3 := SC.2.2
  have W : CWF s := L.1.wf
  have U : UQ s := L.2.2.1.1
  have m0 := L.2.2.2.1
  have pt := pt_trim s (scV xs (x5 + 1))
  refine v_W_law_312 SC L.1.fx ⟨⟨by omega, by omega⟩, by omega, by omega, ?_⟩
  refine s_W_trim (n9 := 0) (s9 := 0) L.1 (L.room (by omega) (by decide) (by decide)) (by decide) (by decide) (fun h1 C1 S1 n1 l1 o1 => ?_)
  have I1 := MIR.clW L.1.fx L.2.1 S1 (Or.inl rfl)
  have r1 := L.rm1 t C1 n1 l1 (by first | decide | omega) (by first | decide | omega)
  have nx1 := C1.fx.nx
  refine v_W_law_323 SC C1.fx ⟨⟨by omega, by omega⟩, by omega, by omega, ?_⟩
  refine s_M_trim C1.fx I1.1 (n9 := 0) (s9 := 0) (by decide) (by decide) (MAN.mat (R := (cTrim s (scV xs (x5 + 1)))) (fun h2 F2 I2 S2 e0 n2 l2 => ?_) C1.fx I1 pt.1)
  have g := LI.no L C1 n1 l1 F2 I2 (S92 S2) n2 l2 L.2.2.1.trim (by rw [pt.2.1]; omega) (BUD.of (by rw [pt.2.2]; omega) (by rw [pt.2.2]; omega))
  have k := K h2 _ _ _ _ g (by omega)
  have o2 : xpl h2 91 0 = xpl h1 91 0 := S2.pl (by omega) (by decide) 0
  have cod : (cTrim s (scV xs (x5 + 1))).1.1 = 0 ∨ (cTrim s (scV xs (x5 + 1))).1.1 ∈ ([1] : List Int) := by
    rcases cod_trim (s := s) (x := scV xs (x5 + 1)) with y | y <;> rw [y] <;> decide
  exact v_W_law_335 SC F2 ⟨fun _ => ⟨fun z => ⟨fun _ => k, fun y => absurd (o2.trans (o1 (thr_0 z cod))) y⟩, fun _ => k⟩, fun y => absurd e0 y⟩
theorem lc_add {G : XG} {d : Nat} {h : XH} {Q : XV → XH → Prop} {X : Nat → XH → Prop} {n9 : Nat} {xs : Nat → Int32} {nm9 : String} {hq9 : List (Nat × Nat × Nat × Nat)} {s : CS} {F N M : Nat} {x5 : Int} (SC : SCR G n9 xs) (L : LI h s F N M) (t : F + N ≤ 511) (x0 : 0 ≤ x5) (x6 : x5 + 6 ≤ n9) (K : ∀ (h9 : XH) (s9 : CS) (F9 N9 M9 : Nat), LI h9 s9 F9 N9 M9 → F9 + N9 = F + N + 1 → xwp G (m_W_law nm9 hq9) (d + 220) 2018 [xR (-108), xR 0, xR 53, xR 91, xR 92, xI x5, xZ, xZ, xZ] [] h9 Q X) : xwp G (m_W_law nm9 hq9) (d + 220) 368 [xR (-108), xR 0, xR 53, xR 91, xR 92, xI x5, xZ, xZ, xZ] [] h Q X := by
  have nx := L.1.fx.nx
  have n3 := SC.2.2
  have W : CWF s := L.1.wf
  have U : UQ s := L.2.2.1.1
  have m0 := L.2.2.2.1
  have pt := pt_add s (scV xs (x5 + 1)) (scV xs (x5 + 2)) (scV xs (x5 + 3))
  refine v_W_law_368 SC L.1.fx ⟨⟨by omega, by omega⟩, by omega, by omega, ⟨by omega, by omega⟩, by omega, by omega, ⟨by omega, by omega⟩, by omega, by omega, ?_⟩
  refine s_W_add (n9 := 5) (s9 := 600) L.1 (L.room (by omega) (by decide) (by decide)) (by decide) (by decide) (fun h1 C1 S1 n1 l1 o1 => ?_)
  have I1 := MIR.clW L.1.fx L.2.1 S1 (Or.inl rfl)
  have r1 := L.rm1 t C1 n1 l1 (by first | decide | omega) (by first | decide | omega)
  have nx1 := C1.fx.nx
  refine v_W_law_391 SC C1.fx ⟨⟨by omega, by omega⟩, by omega, by omega, ⟨by omega, by omega⟩, by omega, by omega, ⟨by omega, by omega⟩, by omega, by omega, ?_⟩
  refine s_M_add C1.fx I1.1 W.1.1 U (n9 := 0) (s9 := 0) (by decide) (by decide) (MAN.mat (R := (cAdd s (scV xs (x5 + 1)) (scV xs (x5 + 2)) (scV xs (x5 + 3)))) (fun h2 F2 I2 S2 e0 n2 l2 => ?_) C1.fx I1 pt.1)
  have g := LI.no L C1 n1 l1 F2 I2 (S92 S2) n2 l2 (L.2.2.1.add W) (by rw [pt.2.1]; omega) (BUD.of (by have := pt.2.2; omega) (by have := pt.2.2; omega))
  have k := K h2 _ _ _ _ g (by omega)
  have o2 : xpl h2 91 0 = xpl h1 91 0 := S2.pl (by omega) (by decide) 0
  have cod : (cAdd s (scV xs (x5 + 1)) (scV xs (x5 + 2)) (scV xs (x5 + 3))).1.1 = 0 ∨ (cAdd s (scV xs (x5 + 1)) (scV xs (x5 + 2)) (scV xs (x5 + 3))).1.1 ∈ ([1, 2] : List Int) := by
    rcases cod_add (s := s) (k := scV xs (x5 + 1)) (sh := scV xs (x5 + 2)) (rk := scV xs (x5 + 3)) with y | y | y <;> rw [y] <;> decide
  exact v_W_law_415 SC F2 ⟨fun _ => ⟨fun z => ⟨fun _ => k, fun y => absurd (o2.trans (o1 (thr_0 z cod))) y⟩, fun _ => k⟩, fun y => absurd e0 y⟩
theorem lc_takeOut {G : XG} {d : Nat} {h : XH} {Q : XV → XH → Prop} {X : Nat → XH → Prop} {n9 : Nat} {xs : Nat → Int32} {nm9 : String} {hq9 : List (Nat × Nat × Nat × Nat)} {s : CS} {F N M : Nat} {x5 : Int} (SC : SCR G n9 xs) (L : LI h s F N M) (t : F + N ≤ 511) (x0 : 0 ≤ x5) (x6 : x5 + 6 ≤ n9) (K : ∀ (h9 : XH) (s9 : CS) (F9 N9 M9 : Nat), LI h9 s9 F9 N9 M9 → F9 + N9 = F + N + 1 → xwp G (m_W_law nm9 hq9) (d + 220) 2018 [xR (-108), xR 0, xR 53, xR 91, xR 92, xI x5, xZ, xZ, xZ] [] h9 Q X) : xwp G (m_W_law nm9 hq9) (d + 220) 448 [xR (-108), xR 0, xR 53, xR 91, xR 92, xI x5, xZ, xZ, xZ] [] h Q X := by
  have nx := L.1.fx.nx
  have n3 := SC.2.2
  have W : CWF s := L.1.wf
  have U : UQ s := L.2.2.1.1
  have m0 := L.2.2.2.1
  have pt := pt_takeOut s (scV xs (x5 + 1))
  refine v_W_law_448 SC L.1.fx ⟨⟨by omega, by omega⟩, by omega, by omega, ?_⟩
  refine s_W_takeOut (n9 := 0) (s9 := 0) L.1 (L.room (by omega) (by decide) (by decide)) (by decide) (by decide) (fun h1 C1 S1 n1 l1 o1 => ?_)
  have I1 := MIR.clW L.1.fx L.2.1 S1 (Or.inl rfl)
  have r1 := L.rm1 t C1 n1 l1 (by first | decide | omega) (by first | decide | omega)
  have nx1 := C1.fx.nx
  refine v_W_law_459 SC C1.fx ⟨⟨by omega, by omega⟩, by omega, by omega, ?_⟩
  refine s_M_takeOut C1.fx I1.1 W.1.1 U (n9 := 0) (s9 := 0) (by decide) (by decide) (MAN.mat (R := (cTakeOut s (scV xs (x5 + 1)))) (fun h2 F2 I2 S2 e0 n2 l2 => ?_) C1.fx I1 pt.1)
  have g := LI.no L C1 n1 l1 F2 I2 (S92 S2) n2 l2 (L.2.2.1.takeOut W) (by rw [pt.2.1]; omega) (BUD.of (by have := pt.2.2; omega) (by have := pt.2.2; omega))
  have k := K h2 _ _ _ _ g (by omega)
  have o2 : xpl h2 91 0 = xpl h1 91 0 := S2.pl (by omega) (by decide) 0
  have cod : (cTakeOut s (scV xs (x5 + 1))).1.1 = 0 ∨ (cTakeOut s (scV xs (x5 + 1))).1.1 ∈ ([1, 2] : List Int) := by
    rcases cod_takeOut (s := s) (k := scV xs (x5 + 1)) with y | y | y <;> rw [y] <;> decide
  refine v_W_law_471 SC F2 ⟨fun _ => ⟨fun z => ?_, fun _ => k⟩, fun y => absurd e0 y⟩
  have ev : xpl h2 91 0 = if (cTakeOut s (scV xs (x5 + 1))).1.2 = 0 then 0 else 1 := o2.trans (o1 (thr_0 z cod))
  exact ⟨fun b => ⟨fun _ => k, fun y => absurd (by rw [ev, if_pos b]) y⟩, fun b => ⟨fun _ => k, fun y => absurd (by rw [ev, if_neg b]) y⟩⟩
theorem lc_commit {G : XG} {d : Nat} {h : XH} {Q : XV → XH → Prop} {X : Nat → XH → Prop} {n9 : Nat} {xs : Nat → Int32} {nm9 : String} {hq9 : List (Nat × Nat × Nat × Nat)} {s : CS} {F N M : Nat} {x5 : Int} (SC : SCR G n9 xs) (L : LI h s F N M) (t : F + N ≤ 511) (x0 : 0 ≤ x5) (x6 : x5 + 6 ≤ n9) (K : ∀ (h9 : XH) (s9 : CS) (F9 N9 M9 : Nat), LI h9 s9 F9 N9 M9 → F9 + N9 = F + N + 1 → xwp G (m_W_law nm9 hq9) (d + 220) 2018 [xR (-108), xR 0, xR 53, xR 91, xR 92, xI x5, xZ, xZ, xZ] [] h9 Q X) : xwp G (m_W_law nm9 hq9) (d + 220) 511 [xR (-108), xR 0, xR 53, xR 91, xR 92, xI x5, xZ, xZ, xZ] [] h Q X := by
  have nx := L.1.fx.nx
  have n3 := SC.2.2
  have W : CWF s := L.1.wf
  have U : UQ s := L.2.2.1.1
  have m0 := L.2.2.2.1
  have bl : (bC s).length ≤ 60 := by have := W.1.2; omega
  have pc := L.2.2.1.commit W
  refine v_W_law_511 SC L.1.fx ?_
  have e1 : (cCommit s).1.1 = 0 := rfl
  refine s_B_commit (n9 := ((bC s).length : Int)) (s9 := (130 * ((bC s).length : Int))) L.1 (L.room (by omega) (by first | decide | omega) (by first | decide | omega)) (by first | decide | omega) (by first | decide | omega) (by omega) ⟨fun _ h1 C1 S1 n1 l1 => ?_, fun k e => absurd (e1.symm.trans e) (by omega)⟩
  have n1 : nxP h1 ≤ nxP h + ((bC s).length : Int) + 1 := by omega
  have l1 : slP h1 ≤ slP h + (130 * ((bC s).length : Int)) + 6 := by omega
  have I1 := MIR.clB L.1.fx L.2.1 S1
  have r1 := L.rm1 t C1 n1 l1 (by first | decide | omega) (by first | decide | omega)
  have nx1 := C1.fx.nx
  refine v_W_law_515 SC C1.fx ?_
  refine s_M_commit C1.fx I1.1 W.1.1 W.2.1 (by omega) (n9 := 0) (s9 := 0) (by decide) (by decide) (MAN.mat (R := (cCommit s)) (fun h2 F2 I2 S2 e0 n2 l2 => ?_) C1.fx I1 rfl)
  have g := LI.no L C1 n1 l1 F2 I2 (S92 S2) n2 l2 (L.2.2.1.commit W).1 pc.2 (BUD.of (by show _ + 1 + ((0 : Nat) : Int) + _ ≤ _; omega) (by show _ + 6 + 130 * ((0 : Nat) : Int) + _ ≤ _; omega))
  have k := K h2 _ _ _ _ g (by omega)
  exact v_W_law_519 SC F2 ⟨fun _ => k, fun y => absurd rfl y⟩
theorem lc_mergeAll {G : XG} {d : Nat} {h : XH} {Q : XV → XH → Prop} {X : Nat → XH → Prop} {n9 : Nat} {xs : Nat → Int32} {nm9 : String} {hq9 : List (Nat × Nat × Nat × Nat)} {s : CS} {F N M : Nat} {x5 : Int} (SC : SCR G n9 xs) (L : LI h s F N M) (t : F + N ≤ 511) (x0 : 0 ≤ x5) (x6 : x5 + 6 ≤ n9) (K : ∀ (h9 : XH) (s9 : CS) (F9 N9 M9 : Nat), LI h9 s9 F9 N9 M9 → F9 + N9 = F + N + 1 → xwp G (m_W_law nm9 hq9) (d + 220) 2018 [xR (-108), xR 0, xR 53, xR 91, xR 92, xI x5, xZ, xZ, xZ] [] h9 Q X) : xwp G (m_W_law nm9 hq9) (d + 220) 524 [xR (-108), xR 0, xR 53, xR 91, xR 92, xI x5, xZ, xZ, xZ] [] h Q X := by
  have nx := L.1.fx.nx
  have n3 := SC.2.2
  have W : CWF s := L.1.wf
  have U : UQ s := L.2.2.1.1
  have m0 := L.2.2.2.1
  have pc := L.2.2.1.mergeAll W
  refine v_W_law_524 SC L.1.fx ?_
  have e1 : (cMergeAll s).1.1 = 0 := rfl
  refine s_B_mergeAll (n9 := 0) (s9 := 0) L.1 (by first | decide | omega) (by first | decide | omega) (by omega) ⟨fun _ h1 C1 S1 n1 l1 => ?_, fun k e => absurd (e1.symm.trans e) (by omega)⟩
  have n1 : nxP h1 ≤ nxP h + 0 + 1 := by omega
  have l1 : slP h1 ≤ slP h + 0 + 6 := by omega
  have I1 := MIR.clB L.1.fx L.2.1 S1
  have r1 := L.rm1 t C1 n1 l1 (by first | decide | omega) (by first | decide | omega)
  have nx1 := C1.fx.nx
  refine v_W_law_528 SC C1.fx ?_
  refine s_M_mergeAll C1.fx I1.1 W.1.1 W.2.1 (by omega) (n9 := 0) (s9 := 0) (by decide) (by decide) (MAN.mat (R := (cMergeAll s)) (fun h2 F2 I2 S2 e0 n2 l2 => ?_) C1.fx I1 rfl)
  have g := LI.no L C1 n1 l1 F2 I2 (S92 S2) n2 l2 (L.2.2.1.mergeAll W).1 pc.2 (BUD.of (by show (0 : Int) + 1 + ((bC s).length : Int) + _ ≤ _; omega) (by show (0 : Int) + 6 + 130 * ((bC s).length : Int) + _ ≤ _; omega))
  have k := K h2 _ _ _ _ g (by omega)
  exact v_W_law_532 SC F2 ⟨fun _ => k, fun y => absurd rfl y⟩
theorem lc_texts {G : XG} {d : Nat} {h : XH} {Q : XV → XH → Prop} {X : Nat → XH → Prop} {n9 : Nat} {xs : Nat → Int32} {nm9 : String} {hq9 : List (Nat × Nat × Nat × Nat)} {s : CS} {F N M : Nat} {x5 : Int} (SC : SCR G n9 xs) (L : LI h s F N M) (t : F + N ≤ 511) (x0 : 0 ≤ x5) (x6 : x5 + 6 ≤ n9) (K : ∀ (h9 : XH) (s9 : CS) (F9 N9 M9 : Nat), LI h9 s9 F9 N9 M9 → F9 + N9 = F + N + 1 → xwp G (m_W_law nm9 hq9) (d + 220) 2018 [xR (-108), xR 0, xR 53, xR 91, xR 92, xI x5, xZ, xZ, xZ] [] h9 Q X) : xwp G (m_W_law nm9 hq9) (d + 220) 537 [xR (-108), xR 0, xR 53, xR 91, xR 92, xI x5, xZ, xZ, xZ] [] h Q X := by
  have nx := L.1.fx.nx
  have n3 := SC.2.2
  have W : CWF s := L.1.wf
  have U : UQ s := L.2.2.1.1
  have m0 := L.2.2.2.1
  refine v_W_law_537 SC L.1.fx ?_
  have e1 : (cTexts s).1.1 = 0 := rfl
  refine s_B_texts (n9 := 0) (s9 := 0) L.1 (by first | decide | omega) (by first | decide | omega) ⟨fun _ h1 C1 S1 n1 l1 => ?_, fun k e => absurd (e1.symm.trans e) (by omega)⟩
  have n1 : nxP h1 ≤ nxP h + 0 + 1 := by omega
  have l1 : slP h1 ≤ slP h + 0 + 6 := by omega
  have I1 := MIR.clB L.1.fx L.2.1 S1
  have r1 := L.rm1 t C1 n1 l1 (by first | decide | omega) (by first | decide | omega)
  have nx1 := C1.fx.nx
  refine v_W_law_541 SC C1.fx ?_
  refine p_M_texts C1.fx I1.1.2.1 (MAN.rd (R := (cTexts s)) (n9 := 0) (s9 := 0) (fun h2 F2 I2 S2 e0 n2 l2 => ?_) rfl I1 (by decide) (by decide))
  have g := LI.no L C1 n1 l1 F2 I2 (S92 S2) n2 l2 L.2.2.1 (by show mC s ≤ mC s + 60; omega) (BUD.of (by show (0 : Int) + 1 + ((bC s).length : Int) + _ ≤ _; omega) (by show (0 : Int) + 6 + 130 * ((bC s).length : Int) + _ ≤ _; omega))
  have k := K h2 _ _ _ _ g (by omega)
  exact v_W_law_545 SC F2 ⟨fun _ => k, fun y => absurd rfl y⟩
theorem lc_buffered {G : XG} {d : Nat} {h : XH} {Q : XV → XH → Prop} {X : Nat → XH → Prop} {n9 : Nat} {xs : Nat → Int32} {nm9 : String} {hq9 : List (Nat × Nat × Nat × Nat)} {s : CS} {F N M : Nat} {x5 : Int} (SC : SCR G n9 xs) (L : LI h s F N M) (t : F + N ≤ 511) (x0 : 0 ≤ x5) (x6 : x5 + 6 ≤ n9) (K : ∀ (h9 : XH) (s9 : CS) (F9 N9 M9 : Nat), LI h9 s9 F9 N9 M9 → F9 + N9 = F + N + 1 → xwp G (m_W_law nm9 hq9) (d + 220) 2018 [xR (-108), xR 0, xR 53, xR 91, xR 92, xI x5, xZ, xZ, xZ] [] h9 Q X) : xwp G (m_W_law nm9 hq9) (d + 220) 550 [xR (-108), xR 0, xR 53, xR 91, xR 92, xI x5, xZ, xZ, xZ] [] h Q X := by
  have nx := L.1.fx.nx
  have n3 := SC.2.2
  have W : CWF s := L.1.wf
  have U : UQ s := L.2.2.1.1
  have m0 := L.2.2.2.1
  refine v_W_law_550 SC L.1.fx ?_
  have e1 : (cBuffered s).1.1 = 0 := rfl
  refine s_B_buffered (n9 := 0) (s9 := 0) L.1 (by first | decide | omega) (by first | decide | omega) ⟨fun _ h1 C1 S1 n1 l1 => ?_, fun k e => absurd (e1.symm.trans e) (by omega)⟩
  have n1 : nxP h1 ≤ nxP h + 0 + 1 := by omega
  have l1 : slP h1 ≤ slP h + 0 + 6 := by omega
  have I1 := MIR.clB L.1.fx L.2.1 S1
  have r1 := L.rm1 t C1 n1 l1 (by first | decide | omega) (by first | decide | omega)
  have nx1 := C1.fx.nx
  refine v_W_law_554 SC C1.fx ?_
  refine p_M_buffered C1.fx I1.1.2.1 W.1.1 (MAN.rd (R := (cBuffered s)) (n9 := 0) (s9 := 0) (fun h2 F2 I2 S2 e0 n2 l2 => ?_) rfl I1 (by decide) (by decide))
  have g := LI.no L C1 n1 l1 F2 I2 (S92 S2) n2 l2 L.2.2.1 (by show mC s ≤ mC s + 60; omega) (BUD.of (by show (0 : Int) + 1 + ((bC s).length : Int) + _ ≤ _; omega) (by show (0 : Int) + 6 + 130 * ((bC s).length : Int) + _ ≤ _; omega))
  have k := K h2 _ _ _ _ g (by omega)
  exact v_W_law_558 SC F2 ⟨fun _ => k, fun y => absurd rfl y⟩
theorem lc_segments {G : XG} {d : Nat} {h : XH} {Q : XV → XH → Prop} {X : Nat → XH → Prop} {n9 : Nat} {xs : Nat → Int32} {nm9 : String} {hq9 : List (Nat × Nat × Nat × Nat)} {s : CS} {F N M : Nat} {x5 : Int} (SC : SCR G n9 xs) (L : LI h s F N M) (t : F + N ≤ 511) (x0 : 0 ≤ x5) (x6 : x5 + 6 ≤ n9) (K : ∀ (h9 : XH) (s9 : CS) (F9 N9 M9 : Nat), LI h9 s9 F9 N9 M9 → F9 + N9 = F + N + 1 → xwp G (m_W_law nm9 hq9) (d + 220) 2018 [xR (-108), xR 0, xR 53, xR 91, xR 92, xI x5, xZ, xZ, xZ] [] h9 Q X) : xwp G (m_W_law nm9 hq9) (d + 220) 563 [xR (-108), xR 0, xR 53, xR 91, xR 92, xI x5, xZ, xZ, xZ] [] h Q X := by
  have nx := L.1.fx.nx
  have n3 := SC.2.2
  have W : CWF s := L.1.wf
  have U : UQ s := L.2.2.1.1
  have m0 := L.2.2.2.1
  refine v_W_law_563 SC L.1.fx ?_
  have e1 : (cSegments s).1.1 = 0 := rfl
  refine s_B_segments (n9 := 0) (s9 := 0) L.1 (by first | decide | omega) (by first | decide | omega) ⟨fun _ h1 C1 S1 n1 l1 => ?_, fun k e => absurd (e1.symm.trans e) (by omega)⟩
  have n1 : nxP h1 ≤ nxP h + 0 + 1 := by omega
  have l1 : slP h1 ≤ slP h + 0 + 6 := by omega
  have I1 := MIR.clB L.1.fx L.2.1 S1
  have r1 := L.rm1 t C1 n1 l1 (by first | decide | omega) (by first | decide | omega)
  have nx1 := C1.fx.nx
  refine v_W_law_567 SC C1.fx ?_
  refine p_M_segments C1.fx I1.1.2.1 (MAN.rd (R := (cSegments s)) (n9 := 0) (s9 := 0) (fun h2 F2 I2 S2 e0 n2 l2 => ?_) rfl I1 (by decide) (by decide))
  have g := LI.no L C1 n1 l1 F2 I2 (S92 S2) n2 l2 L.2.2.1 (by show mC s ≤ mC s + 60; omega) (BUD.of (by show (0 : Int) + 1 + ((bC s).length : Int) + _ ≤ _; omega) (by show (0 : Int) + 6 + 130 * ((bC s).length : Int) + _ ≤ _; omega))
  have k := K h2 _ _ _ _ g (by omega)
  exact v_W_law_571 SC F2 ⟨fun _ => k, fun y => absurd rfl y⟩
theorem lc_merges {G : XG} {d : Nat} {h : XH} {Q : XV → XH → Prop} {X : Nat → XH → Prop} {n9 : Nat} {xs : Nat → Int32} {nm9 : String} {hq9 : List (Nat × Nat × Nat × Nat)} {s : CS} {F N M : Nat} {x5 : Int} (SC : SCR G n9 xs) (L : LI h s F N M) (t : F + N ≤ 511) (x0 : 0 ≤ x5) (x6 : x5 + 6 ≤ n9) (K : ∀ (h9 : XH) (s9 : CS) (F9 N9 M9 : Nat), LI h9 s9 F9 N9 M9 → F9 + N9 = F + N + 1 → xwp G (m_W_law nm9 hq9) (d + 220) 2018 [xR (-108), xR 0, xR 53, xR 91, xR 92, xI x5, xZ, xZ, xZ] [] h9 Q X) : xwp G (m_W_law nm9 hq9) (d + 220) 576 [xR (-108), xR 0, xR 53, xR 91, xR 92, xI x5, xZ, xZ, xZ] [] h Q X := by
  have nx := L.1.fx.nx
  have n3 := SC.2.2
  have W : CWF s := L.1.wf
  have U : UQ s := L.2.2.1.1
  have m0 := L.2.2.2.1
  refine v_W_law_576 SC L.1.fx ?_
  have e1 : (cMerges s).1.1 = 0 := rfl
  refine s_B_merges (n9 := 0) (s9 := 0) L.1 (by first | decide | omega) (by first | decide | omega) ⟨fun _ h1 C1 S1 n1 l1 => ?_, fun k e => absurd (e1.symm.trans e) (by omega)⟩
  have n1 : nxP h1 ≤ nxP h + 0 + 1 := by omega
  have l1 : slP h1 ≤ slP h + 0 + 6 := by omega
  have I1 := MIR.clB L.1.fx L.2.1 S1
  have r1 := L.rm1 t C1 n1 l1 (by first | decide | omega) (by first | decide | omega)
  have nx1 := C1.fx.nx
  refine v_W_law_580 SC C1.fx ?_
  refine p_M_merges C1.fx I1.1.2.1 (MAN.rd (R := (cMerges s)) (n9 := 0) (s9 := 0) (fun h2 F2 I2 S2 e0 n2 l2 => ?_) rfl I1 (by decide) (by decide))
  have g := LI.no L C1 n1 l1 F2 I2 (S92 S2) n2 l2 L.2.2.1 (by show mC s ≤ mC s + 60; omega) (BUD.of (by show (0 : Int) + 1 + ((bC s).length : Int) + _ ≤ _; omega) (by show (0 : Int) + 6 + 130 * ((bC s).length : Int) + _ ≤ _; omega))
  have k := K h2 _ _ _ _ g (by omega)
  exact v_W_law_584 SC F2 ⟨fun _ => k, fun y => absurd rfl y⟩
theorem lc_textsIn {G : XG} {d : Nat} {h : XH} {Q : XV → XH → Prop} {X : Nat → XH → Prop} {n9 : Nat} {xs : Nat → Int32} {nm9 : String} {hq9 : List (Nat × Nat × Nat × Nat)} {s : CS} {F N M : Nat} {x5 : Int} (SC : SCR G n9 xs) (L : LI h s F N M) (t : F + N ≤ 511) (x0 : 0 ≤ x5) (x6 : x5 + 6 ≤ n9) (K : ∀ (h9 : XH) (s9 : CS) (F9 N9 M9 : Nat), LI h9 s9 F9 N9 M9 → F9 + N9 = F + N + 1 → xwp G (m_W_law nm9 hq9) (d + 220) 2018 [xR (-108), xR 0, xR 53, xR 91, xR 92, xI x5, xZ, xZ, xZ] [] h9 Q X) : xwp G (m_W_law nm9 hq9) (d + 220) 589 [xR (-108), xR 0, xR 53, xR 91, xR 92, xI x5, xZ, xZ, xZ] [] h Q X := by
  have nx := L.1.fx.nx
  have n3 := SC.2.2
  have W : CWF s := L.1.wf
  have U : UQ s := L.2.2.1.1
  have m0 := L.2.2.2.1
  refine v_W_law_589 SC L.1.fx ⟨⟨by omega, by omega⟩, by omega, by omega, ?_⟩
  refine s_W_textsIn (n9 := 0) (s9 := 0) L.1 (L.room (by omega) (by decide) (by decide)) (by decide) (by decide) (fun h1 C1 S1 n1 l1 o1 => ?_)
  have I1 := MIR.clW L.1.fx L.2.1 S1 (Or.inl rfl)
  have r1 := L.rm1 t C1 n1 l1 (by first | decide | omega) (by first | decide | omega)
  have nx1 := C1.fx.nx
  refine v_W_law_600 SC C1.fx ⟨⟨by omega, by omega⟩, by omega, by omega, ?_⟩
  refine p_M_textsIn C1.fx I1.1.2.1 (MAN.rd (R := (cTextsIn s (scV xs (x5 + 1)))) (n9 := 0) (s9 := 0) (fun h2 F2 I2 S2 e0 n2 l2 => ?_) rfl I1 (by decide) (by decide))
  have g := LI.no L C1 n1 l1 F2 I2 (S92 S2) n2 l2 L.2.2.1 (by show mC s ≤ mC s + 60; omega) (BUD.of (by show (0 : Int) + 1 + ((bC s).length : Int) + _ ≤ _; omega) (by show (0 : Int) + 6 + 130 * ((bC s).length : Int) + _ ≤ _; omega))
  have k := K h2 _ _ _ _ g (by omega)
  have o2 : xpl h2 91 0 = xpl h1 91 0 := S2.pl (by omega) (by decide) 0
  have cod : (cTextsIn s (scV xs (x5 + 1))).1.1 = 0 ∨ (cTextsIn s (scV xs (x5 + 1))).1.1 ∈ ([3] : List Int) := by
    rcases cod_textsIn (s := s) (x := scV xs (x5 + 1)) with y | y <;> rw [y] <;> decide
  exact v_W_law_612 SC F2 ⟨fun _ => ⟨fun z => ⟨fun _ => k, fun y => absurd (o2.trans (o1 (thr_0 z cod))) y⟩, fun _ => k⟩, fun y => absurd e0 y⟩
theorem lc_markedIn {G : XG} {d : Nat} {h : XH} {Q : XV → XH → Prop} {X : Nat → XH → Prop} {n9 : Nat} {xs : Nat → Int32} {nm9 : String} {hq9 : List (Nat × Nat × Nat × Nat)} {s : CS} {F N M : Nat} {x5 : Int} (SC : SCR G n9 xs) (L : LI h s F N M) (t : F + N ≤ 511) (x0 : 0 ≤ x5) (x6 : x5 + 6 ≤ n9) (K : ∀ (h9 : XH) (s9 : CS) (F9 N9 M9 : Nat), LI h9 s9 F9 N9 M9 → F9 + N9 = F + N + 1 → xwp G (m_W_law nm9 hq9) (d + 220) 2018 [xR (-108), xR 0, xR 53, xR 91, xR 92, xI x5, xZ, xZ, xZ] [] h9 Q X) : xwp G (m_W_law nm9 hq9) (d + 220) 645 [xR (-108), xR 0, xR 53, xR 91, xR 92, xI x5, xZ, xZ, xZ] [] h Q X := by
  have nx := L.1.fx.nx
  have n3 := SC.2.2
  have W : CWF s := L.1.wf
  have U : UQ s := L.2.2.1.1
  have m0 := L.2.2.2.1
  refine v_W_law_645 SC L.1.fx ⟨⟨by omega, by omega⟩, by omega, by omega, ?_⟩
  refine s_W_markedIn (n9 := 0) (s9 := 0) L.1 (L.room (by omega) (by decide) (by decide)) (by decide) (by decide) (fun h1 C1 S1 n1 l1 o1 => ?_)
  have I1 := MIR.clW L.1.fx L.2.1 S1 (Or.inl rfl)
  have r1 := L.rm1 t C1 n1 l1 (by first | decide | omega) (by first | decide | omega)
  have nx1 := C1.fx.nx
  refine v_W_law_656 SC C1.fx ⟨⟨by omega, by omega⟩, by omega, by omega, ?_⟩
  refine p_M_markedIn C1.fx I1.1.2.1 W.1.1 (MAN.rd (R := (cMarkedIn s (scV xs (x5 + 1)))) (n9 := 0) (s9 := 0) (fun h2 F2 I2 S2 e0 n2 l2 => ?_) rfl I1 (by decide) (by decide))
  have g := LI.no L C1 n1 l1 F2 I2 (S92 S2) n2 l2 L.2.2.1 (by show mC s ≤ mC s + 60; omega) (BUD.of (by show (0 : Int) + 1 + ((bC s).length : Int) + _ ≤ _; omega) (by show (0 : Int) + 6 + 130 * ((bC s).length : Int) + _ ≤ _; omega))
  have k := K h2 _ _ _ _ g (by omega)
  have o2 : xpl h2 91 0 = xpl h1 91 0 := S2.pl (by omega) (by decide) 0
  have cod : (cMarkedIn s (scV xs (x5 + 1))).1.1 = 0 ∨ (cMarkedIn s (scV xs (x5 + 1))).1.1 ∈ ([3] : List Int) := by
    rcases cod_markedIn (s := s) (x := scV xs (x5 + 1)) with y | y <;> rw [y] <;> decide
  exact v_W_law_668 SC F2 ⟨fun _ => ⟨fun z => ⟨fun _ => k, fun y => absurd (o2.trans (o1 (thr_0 z cod))) y⟩, fun _ => k⟩, fun y => absurd e0 y⟩
theorem lc_levelOf {G : XG} {d : Nat} {h : XH} {Q : XV → XH → Prop} {X : Nat → XH → Prop} {n9 : Nat} {xs : Nat → Int32} {nm9 : String} {hq9 : List (Nat × Nat × Nat × Nat)} {s : CS} {F N M : Nat} {x5 : Int} (SC : SCR G n9 xs) (L : LI h s F N M) (t : F + N ≤ 511) (x0 : 0 ≤ x5) (x6 : x5 + 6 ≤ n9) (K : ∀ (h9 : XH) (s9 : CS) (F9 N9 M9 : Nat), LI h9 s9 F9 N9 M9 → F9 + N9 = F + N + 1 → xwp G (m_W_law nm9 hq9) (d + 220) 2018 [xR (-108), xR 0, xR 53, xR 91, xR 92, xI x5, xZ, xZ, xZ] [] h9 Q X) : xwp G (m_W_law nm9 hq9) (d + 220) 701 [xR (-108), xR 0, xR 53, xR 91, xR 92, xI x5, xZ, xZ, xZ] [] h Q X := by
  have nx := L.1.fx.nx
  have n3 := SC.2.2
  have W : CWF s := L.1.wf
  have U : UQ s := L.2.2.1.1
  have m0 := L.2.2.2.1
  refine v_W_law_701 SC L.1.fx ⟨⟨by omega, by omega⟩, by omega, by omega, ?_⟩
  refine s_W_levelOf (n9 := 0) (s9 := 0) L.1 (L.room (by omega) (by decide) (by decide)) (by decide) (by decide) (fun h1 C1 S1 n1 l1 o1 => ?_)
  have I1 := MIR.clW L.1.fx L.2.1 S1 (Or.inl rfl)
  have r1 := L.rm1 t C1 n1 l1 (by first | decide | omega) (by first | decide | omega)
  have nx1 := C1.fx.nx
  refine v_W_law_712 SC C1.fx ⟨⟨by omega, by omega⟩, by omega, by omega, ?_⟩
  refine p_M_levelOf C1.fx I1.1.2.1 (MAN.rd (R := (cLevelOf s (scV xs (x5 + 1)))) (n9 := 0) (s9 := 0) (fun h2 F2 I2 S2 e0 n2 l2 => ?_) rfl I1 (by decide) (by decide))
  have g := LI.no L C1 n1 l1 F2 I2 (S92 S2) n2 l2 L.2.2.1 (by show mC s ≤ mC s + 60; omega) (BUD.of (by show (0 : Int) + 1 + ((bC s).length : Int) + _ ≤ _; omega) (by show (0 : Int) + 6 + 130 * ((bC s).length : Int) + _ ≤ _; omega))
  have k := K h2 _ _ _ _ g (by omega)
  have o2 : xpl h2 91 0 = xpl h1 91 0 := S2.pl (by omega) (by decide) 0
  have cod : (cLevelOf s (scV xs (x5 + 1))).1.1 = 0 ∨ (cLevelOf s (scV xs (x5 + 1))).1.1 ∈ ([3] : List Int) := by
    rcases cod_levelOf (s := s) (x := scV xs (x5 + 1)) with y | y <;> rw [y] <;> decide
  exact v_W_law_724 SC F2 ⟨fun _ => ⟨fun z => ⟨fun _ => k, fun y => absurd (o2.trans (o1 (thr_0 z cod))) y⟩, fun _ => k⟩, fun y => absurd e0 y⟩
theorem lc_wordsIn {G : XG} {d : Nat} {h : XH} {Q : XV → XH → Prop} {X : Nat → XH → Prop} {n9 : Nat} {xs : Nat → Int32} {nm9 : String} {hq9 : List (Nat × Nat × Nat × Nat)} {s : CS} {F N M : Nat} {x5 : Int} (SC : SCR G n9 xs) (L : LI h s F N M) (t : F + N ≤ 511) (x0 : 0 ≤ x5) (x6 : x5 + 6 ≤ n9) (K : ∀ (h9 : XH) (s9 : CS) (F9 N9 M9 : Nat), LI h9 s9 F9 N9 M9 → F9 + N9 = F + N + 1 → xwp G (m_W_law nm9 hq9) (d + 220) 2018 [xR (-108), xR 0, xR 53, xR 91, xR 92, xI x5, xZ, xZ, xZ] [] h9 Q X) : xwp G (m_W_law nm9 hq9) (d + 220) 757 [xR (-108), xR 0, xR 53, xR 91, xR 92, xI x5, xZ, xZ, xZ] [] h Q X := by
  have nx := L.1.fx.nx
  have n3 := SC.2.2
  have W : CWF s := L.1.wf
  have U : UQ s := L.2.2.1.1
  have m0 := L.2.2.2.1
  have so := so_k (T := ((10 * F : Nat) : Int)) (F := F) rfl (by omega)
  refine v_W_law_757 SC L.1.fx ⟨⟨by omega, by omega⟩, by omega, by omega, ⟨by omega, by omega⟩, by omega, by omega, ?_⟩
  refine s_W_wordsIn (n9 := 0) (s9 := 0) L.1 (L.room (by omega) (by decide) (by decide)) (by decide) (by decide) (fun h1 C1 S1 n1 l1 o1 => ?_)
  have I1 := MIR.clW L.1.fx L.2.1 S1 (Or.inl rfl)
  have r1 := L.rm1 t C1 n1 l1 (by first | decide | omega) (by first | decide | omega)
  have nx1 := C1.fx.nx
  refine v_W_law_774 SC C1.fx ⟨⟨by omega, by omega⟩, by omega, by omega, ⟨by omega, by omega⟩, by omega, by omega, ?_⟩
  refine s_M_wordsIn C1.fx I1.1 W.1.1 (T := ((10 * F : Nat) : Int)) L.2.2.1.tw (by omega) (by omega) (by omega) (n9 := 130) (s9 := kS 64 ((10 * F : Nat) : Int) 0) (by omega) (by omega) (MAN.mat (R := (cWordsIn s (scV xs (x5 + 1)) (scV xs (x5 + 2)))) (fun h2 F2 I2 S2 e0 n2 l2 => ?_) C1.fx I1 rfl)
  have g := LI.no L C1 n1 l1 F2 I2 (S92 S2) n2 l2 L.2.2.1 (by show mC s ≤ mC s + 60; omega) (BUD.so (by show (0 : Int) + 1 + ((bC s).length : Int) + _ ≤ _; omega) (by show (0 : Int) + 6 + 130 * ((bC s).length : Int) + _ ≤ _; omega))
  have k := K h2 _ _ _ _ g (by omega)
  have o2 : xpl h2 91 0 = xpl h1 91 0 := S2.pl (by omega) (by decide) 0
  have cod : (cWordsIn s (scV xs (x5 + 1)) (scV xs (x5 + 2))).1.1 = 0 ∨ (cWordsIn s (scV xs (x5 + 1)) (scV xs (x5 + 2))).1.1 ∈ ([3] : List Int) := by
    rcases cod_wordsIn (s := s) (x := scV xs (x5 + 1)) (f := scV xs (x5 + 2)) with y | y <;> rw [y] <;> decide
  exact v_W_law_792 SC F2 ⟨fun _ => ⟨fun z => ⟨fun _ => k, fun y => absurd (o2.trans (o1 (thr_0 z cod))) y⟩, fun _ => k⟩, fun y => absurd e0 y⟩
theorem lc_keyAt {G : XG} {d : Nat} {h : XH} {Q : XV → XH → Prop} {X : Nat → XH → Prop} {n9 : Nat} {xs : Nat → Int32} {nm9 : String} {hq9 : List (Nat × Nat × Nat × Nat)} {s : CS} {F N M : Nat} {x5 : Int} (SC : SCR G n9 xs) (L : LI h s F N M) (t : F + N ≤ 511) (x0 : 0 ≤ x5) (x6 : x5 + 6 ≤ n9) (K : ∀ (h9 : XH) (s9 : CS) (F9 N9 M9 : Nat), LI h9 s9 F9 N9 M9 → F9 + N9 = F + N + 1 → xwp G (m_W_law nm9 hq9) (d + 220) 2018 [xR (-108), xR 0, xR 53, xR 91, xR 92, xI x5, xZ, xZ, xZ] [] h9 Q X) : xwp G (m_W_law nm9 hq9) (d + 220) 825 [xR (-108), xR 0, xR 53, xR 91, xR 92, xI x5, xZ, xZ, xZ] [] h Q X := by
  have nx := L.1.fx.nx
  have n3 := SC.2.2
  have W : CWF s := L.1.wf
  have U : UQ s := L.2.2.1.1
  have m0 := L.2.2.2.1
  refine v_W_law_825 SC L.1.fx ⟨⟨by omega, by omega⟩, by omega, by omega, ⟨by omega, by omega⟩, by omega, by omega, ?_⟩
  refine s_W_keyAt (n9 := 0) (s9 := 0) L.1 (L.room (by omega) (by decide) (by decide)) (by decide) (by decide) (fun h1 C1 S1 n1 l1 o1 => ?_)
  have I1 := MIR.clW L.1.fx L.2.1 S1 (Or.inl rfl)
  have r1 := L.rm1 t C1 n1 l1 (by first | decide | omega) (by first | decide | omega)
  have nx1 := C1.fx.nx
  refine v_W_law_842 SC C1.fx ⟨⟨by omega, by omega⟩, by omega, by omega, ⟨by omega, by omega⟩, by omega, by omega, ?_⟩
  refine p_M_keyAt C1.fx I1.1.2.1 W.1.1 (MAN.rd (R := (cKeyAt s (scV xs (x5 + 1)) (scV xs (x5 + 2)))) (n9 := 0) (s9 := 0) (fun h2 F2 I2 S2 e0 n2 l2 => ?_) rfl I1 (by decide) (by decide))
  have g := LI.no L C1 n1 l1 F2 I2 (S92 S2) n2 l2 L.2.2.1 (by show mC s ≤ mC s + 60; omega) (BUD.of (by show (0 : Int) + 1 + ((bC s).length : Int) + _ ≤ _; omega) (by show (0 : Int) + 6 + 130 * ((bC s).length : Int) + _ ≤ _; omega))
  have k := K h2 _ _ _ _ g (by omega)
  have o2 : xpl h2 91 0 = xpl h1 91 0 := S2.pl (by omega) (by decide) 0
  have cod : (cKeyAt s (scV xs (x5 + 1)) (scV xs (x5 + 2))).1.1 = 0 ∨ (cKeyAt s (scV xs (x5 + 1)) (scV xs (x5 + 2))).1.1 ∈ ([3] : List Int) := by
    rcases cod_keyAt (s := s) (x := scV xs (x5 + 1)) (y := scV xs (x5 + 2)) with y | y <;> rw [y] <;> decide
  exact v_W_law_860 SC F2 ⟨fun _ => ⟨fun z => ⟨fun _ => k, fun y => absurd (o2.trans (o1 (thr_0 z cod))) y⟩, fun _ => k⟩, fun y => absurd e0 y⟩
theorem lc_isMarked {G : XG} {d : Nat} {h : XH} {Q : XV → XH → Prop} {X : Nat → XH → Prop} {n9 : Nat} {xs : Nat → Int32} {nm9 : String} {hq9 : List (Nat × Nat × Nat × Nat)} {s : CS} {F N M : Nat} {x5 : Int} (SC : SCR G n9 xs) (L : LI h s F N M) (t : F + N ≤ 511) (x0 : 0 ≤ x5) (x6 : x5 + 6 ≤ n9) (K : ∀ (h9 : XH) (s9 : CS) (F9 N9 M9 : Nat), LI h9 s9 F9 N9 M9 → F9 + N9 = F + N + 1 → xwp G (m_W_law nm9 hq9) (d + 220) 2018 [xR (-108), xR 0, xR 53, xR 91, xR 92, xI x5, xZ, xZ, xZ] [] h9 Q X) : xwp G (m_W_law nm9 hq9) (d + 220) 893 [xR (-108), xR 0, xR 53, xR 91, xR 92, xI x5, xZ, xZ, xZ] [] h Q X := by
  have nx := L.1.fx.nx
  have n3 := SC.2.2
  have W : CWF s := L.1.wf
  have U : UQ s := L.2.2.1.1
  have m0 := L.2.2.2.1
  refine v_W_law_893 SC L.1.fx ⟨⟨by omega, by omega⟩, by omega, by omega, ⟨by omega, by omega⟩, by omega, by omega, ?_⟩
  refine s_W_isMarked (n9 := 0) (s9 := 0) L.1 (L.room (by omega) (by decide) (by decide)) (by decide) (by decide) (fun h1 C1 S1 n1 l1 o1 => ?_)
  have I1 := MIR.clW L.1.fx L.2.1 S1 (Or.inl rfl)
  have r1 := L.rm1 t C1 n1 l1 (by first | decide | omega) (by first | decide | omega)
  have nx1 := C1.fx.nx
  refine v_W_law_910 SC C1.fx ⟨⟨by omega, by omega⟩, by omega, by omega, ⟨by omega, by omega⟩, by omega, by omega, ?_⟩
  refine p_M_isMarked C1.fx I1.1.2.1 W.1.1 (MAN.rd (R := (cIsMarked s (scV xs (x5 + 1)) (scV xs (x5 + 2)))) (n9 := 0) (s9 := 0) (fun h2 F2 I2 S2 e0 n2 l2 => ?_) rfl I1 (by decide) (by decide))
  have g := LI.no L C1 n1 l1 F2 I2 (S92 S2) n2 l2 L.2.2.1 (by show mC s ≤ mC s + 60; omega) (BUD.of (by show (0 : Int) + 1 + ((bC s).length : Int) + _ ≤ _; omega) (by show (0 : Int) + 6 + 130 * ((bC s).length : Int) + _ ≤ _; omega))
  have k := K h2 _ _ _ _ g (by omega)
  have o2 : xpl h2 91 0 = xpl h1 91 0 := S2.pl (by omega) (by decide) 0
  have cod : (cIsMarked s (scV xs (x5 + 1)) (scV xs (x5 + 2))).1.1 = 0 ∨ (cIsMarked s (scV xs (x5 + 1)) (scV xs (x5 + 2))).1.1 ∈ ([3] : List Int) := by
    rcases cod_isMarked (s := s) (x := scV xs (x5 + 1)) (y := scV xs (x5 + 2)) with y | y <;> rw [y] <;> decide
  refine v_W_law_928 SC F2 ⟨fun _ => ⟨fun z => ?_, fun _ => k⟩, fun y => absurd e0 y⟩
  have ev : xpl h2 91 0 = if (cIsMarked s (scV xs (x5 + 1)) (scV xs (x5 + 2))).1.2 = 0 then 0 else 1 := o2.trans (o1 (thr_0 z cod))
  exact ⟨fun b => ⟨fun _ => k, fun y => absurd (by rw [ev, if_pos b]) y⟩, fun b => ⟨fun _ => k, fun y => absurd (by rw [ev, if_neg b]) y⟩⟩
theorem lc_lengthOf {G : XG} {d : Nat} {h : XH} {Q : XV → XH → Prop} {X : Nat → XH → Prop} {n9 : Nat} {xs : Nat → Int32} {nm9 : String} {hq9 : List (Nat × Nat × Nat × Nat)} {s : CS} {F N M : Nat} {x5 : Int} (SC : SCR G n9 xs) (L : LI h s F N M) (t : F + N ≤ 511) (x0 : 0 ≤ x5) (x6 : x5 + 6 ≤ n9) (K : ∀ (h9 : XH) (s9 : CS) (F9 N9 M9 : Nat), LI h9 s9 F9 N9 M9 → F9 + N9 = F + N + 1 → xwp G (m_W_law nm9 hq9) (d + 220) 2018 [xR (-108), xR 0, xR 53, xR 91, xR 92, xI x5, xZ, xZ, xZ] [] h9 Q X) : xwp G (m_W_law nm9 hq9) (d + 220) 968 [xR (-108), xR 0, xR 53, xR 91, xR 92, xI x5, xZ, xZ, xZ] [] h Q X := by
  have nx := L.1.fx.nx
  have n3 := SC.2.2
  have W : CWF s := L.1.wf
  have U : UQ s := L.2.2.1.1
  have m0 := L.2.2.2.1
  refine v_W_law_968 SC L.1.fx ⟨⟨by omega, by omega⟩, by omega, by omega, ⟨by omega, by omega⟩, by omega, by omega, ⟨by omega, by omega⟩, by omega, by omega, ?_⟩
  refine s_W_lengthOf (n9 := 0) (s9 := 0) L.1 (L.room (by omega) (by decide) (by decide)) (by decide) (by decide) (fun h1 C1 S1 n1 l1 o1 => ?_)
  have I1 := MIR.clW L.1.fx L.2.1 S1 (Or.inl rfl)
  have r1 := L.rm1 t C1 n1 l1 (by first | decide | omega) (by first | decide | omega)
  have nx1 := C1.fx.nx
  refine v_W_law_991 SC C1.fx ⟨⟨by omega, by omega⟩, by omega, by omega, ⟨by omega, by omega⟩, by omega, by omega, ⟨by omega, by omega⟩, by omega, by omega, ?_⟩
  refine p_M_lengthOf3 C1.fx I1.1.2.1 W.1.1 (MAN.rd (R := (cLengthOf s (scV xs (x5 + 1)) (scV xs (x5 + 2)) (scV xs (x5 + 3)))) (n9 := 0) (s9 := 0) (fun h2 F2 I2 S2 e0 n2 l2 => ?_) rfl I1 (by decide) (by decide))
  have g := LI.no L C1 n1 l1 F2 I2 (S92 S2) n2 l2 L.2.2.1 (by show mC s ≤ mC s + 60; omega) (BUD.of (by show (0 : Int) + 1 + ((bC s).length : Int) + _ ≤ _; omega) (by show (0 : Int) + 6 + 130 * ((bC s).length : Int) + _ ≤ _; omega))
  have k := K h2 _ _ _ _ g (by omega)
  have o2 : xpl h2 91 0 = xpl h1 91 0 := S2.pl (by omega) (by decide) 0
  have cod : (cLengthOf s (scV xs (x5 + 1)) (scV xs (x5 + 2)) (scV xs (x5 + 3))).1.1 = 0 ∨ (cLengthOf s (scV xs (x5 + 1)) (scV xs (x5 + 2)) (scV xs (x5 + 3))).1.1 ∈ ([3] : List Int) := by
    rcases cod_lengthOf (s := s) (x := scV xs (x5 + 1)) (y := scV xs (x5 + 2)) (f := scV xs (x5 + 3)) with y | y <;> rw [y] <;> decide
  exact v_W_law_1015 SC F2 ⟨fun _ => ⟨fun z => ⟨fun _ => k, fun y => absurd (o2.trans (o1 (thr_0 z cod))) y⟩, fun _ => k⟩, fun y => absurd e0 y⟩
theorem lc_segmentOf {G : XG} {d : Nat} {h : XH} {Q : XV → XH → Prop} {X : Nat → XH → Prop} {n9 : Nat} {xs : Nat → Int32} {nm9 : String} {hq9 : List (Nat × Nat × Nat × Nat)} {s : CS} {F N M : Nat} {x5 : Int} (SC : SCR G n9 xs) (L : LI h s F N M) (t : F + N ≤ 511) (x0 : 0 ≤ x5) (x6 : x5 + 6 ≤ n9) (K : ∀ (h9 : XH) (s9 : CS) (F9 N9 M9 : Nat), LI h9 s9 F9 N9 M9 → F9 + N9 = F + N + 1 → xwp G (m_W_law nm9 hq9) (d + 220) 2018 [xR (-108), xR 0, xR 53, xR 91, xR 92, xI x5, xZ, xZ, xZ] [] h9 Q X) : xwp G (m_W_law nm9 hq9) (d + 220) 1048 [xR (-108), xR 0, xR 53, xR 91, xR 92, xI x5, xZ, xZ, xZ] [] h Q X := by
  have nx := L.1.fx.nx
  have n3 := SC.2.2
  have W : CWF s := L.1.wf
  have U : UQ s := L.2.2.1.1
  have m0 := L.2.2.2.1
  refine v_W_law_1048 SC L.1.fx ⟨⟨by omega, by omega⟩, by omega, by omega, ?_⟩
  refine s_W_segmentOf (n9 := 0) (s9 := 0) L.1 (L.room (by omega) (by decide) (by decide)) (by decide) (by decide) (fun h1 C1 S1 n1 l1 o1 => ?_)
  have I1 := MIR.clW L.1.fx L.2.1 S1 (Or.inl rfl)
  have r1 := L.rm1 t C1 n1 l1 (by first | decide | omega) (by first | decide | omega)
  have nx1 := C1.fx.nx
  refine v_W_law_1059 SC C1.fx ⟨⟨by omega, by omega⟩, by omega, by omega, ?_⟩
  refine p_M_segmentOf C1.fx I1.1.2.1 W.1.1 U (MAN.rd (R := (cSegmentOf s (scV xs (x5 + 1)))) (n9 := 0) (s9 := 0) (fun h2 F2 I2 S2 e0 n2 l2 => ?_) rfl I1 (by decide) (by decide))
  have g := LI.no L C1 n1 l1 F2 I2 (S92 S2) n2 l2 L.2.2.1 (by show mC s ≤ mC s + 60; omega) (BUD.of (by show (0 : Int) + 1 + ((bC s).length : Int) + _ ≤ _; omega) (by show (0 : Int) + 6 + 130 * ((bC s).length : Int) + _ ≤ _; omega))
  have k := K h2 _ _ _ _ g (by omega)
  have o2 : xpl h2 91 0 = xpl h1 91 0 := S2.pl (by omega) (by decide) 0
  have cod : (cSegmentOf s (scV xs (x5 + 1))).1.1 = 0 ∨ (cSegmentOf s (scV xs (x5 + 1))).1.1 ∈ ([1] : List Int) := by
    rcases cod_segmentOf (s := s) (k := scV xs (x5 + 1)) with y | y <;> rw [y] <;> decide
  exact v_W_law_1071 SC F2 ⟨fun _ => ⟨fun z => ⟨fun _ => k, fun y => absurd (o2.trans (o1 (thr_0 z cod))) y⟩, fun _ => k⟩, fun y => absurd e0 y⟩
theorem lc_shelfOf {G : XG} {d : Nat} {h : XH} {Q : XV → XH → Prop} {X : Nat → XH → Prop} {n9 : Nat} {xs : Nat → Int32} {nm9 : String} {hq9 : List (Nat × Nat × Nat × Nat)} {s : CS} {F N M : Nat} {x5 : Int} (SC : SCR G n9 xs) (L : LI h s F N M) (t : F + N ≤ 511) (x0 : 0 ≤ x5) (x6 : x5 + 6 ≤ n9) (K : ∀ (h9 : XH) (s9 : CS) (F9 N9 M9 : Nat), LI h9 s9 F9 N9 M9 → F9 + N9 = F + N + 1 → xwp G (m_W_law nm9 hq9) (d + 220) 2018 [xR (-108), xR 0, xR 53, xR 91, xR 92, xI x5, xZ, xZ, xZ] [] h9 Q X) : xwp G (m_W_law nm9 hq9) (d + 220) 1104 [xR (-108), xR 0, xR 53, xR 91, xR 92, xI x5, xZ, xZ, xZ] [] h Q X := by
  have nx := L.1.fx.nx
  have n3 := SC.2.2
  have W : CWF s := L.1.wf
  have U : UQ s := L.2.2.1.1
  have m0 := L.2.2.2.1
  refine v_W_law_1104 SC L.1.fx ⟨⟨by omega, by omega⟩, by omega, by omega, ?_⟩
  refine s_W_shelfOf (n9 := 0) (s9 := 0) L.1 (L.room (by omega) (by decide) (by decide)) (by decide) (by decide) (fun h1 C1 S1 n1 l1 o1 => ?_)
  have I1 := MIR.clW L.1.fx L.2.1 S1 (Or.inl rfl)
  have r1 := L.rm1 t C1 n1 l1 (by first | decide | omega) (by first | decide | omega)
  have nx1 := C1.fx.nx
  refine v_W_law_1115 SC C1.fx ⟨⟨by omega, by omega⟩, by omega, by omega, ?_⟩
  refine p_M_shelfOf C1.fx I1.1.2.1 U (MAN.rd (R := (cShelfOf s (scV xs (x5 + 1)))) (n9 := 0) (s9 := 0) (fun h2 F2 I2 S2 e0 n2 l2 => ?_) rfl I1 (by decide) (by decide))
  have g := LI.no L C1 n1 l1 F2 I2 (S92 S2) n2 l2 L.2.2.1 (by show mC s ≤ mC s + 60; omega) (BUD.of (by show (0 : Int) + 1 + ((bC s).length : Int) + _ ≤ _; omega) (by show (0 : Int) + 6 + 130 * ((bC s).length : Int) + _ ≤ _; omega))
  have k := K h2 _ _ _ _ g (by omega)
  have o2 : xpl h2 91 0 = xpl h1 91 0 := S2.pl (by omega) (by decide) 0
  have cod : (cShelfOf s (scV xs (x5 + 1))).1.1 = 0 ∨ (cShelfOf s (scV xs (x5 + 1))).1.1 ∈ ([1] : List Int) := by
    rcases cod_shelfOf (s := s) (k := scV xs (x5 + 1)) with y | y <;> rw [y] <;> decide
  exact v_W_law_1127 SC F2 ⟨fun _ => ⟨fun z => ⟨fun _ => k, fun y => absurd (o2.trans (o1 (thr_0 z cod))) y⟩, fun _ => k⟩, fun y => absurd e0 y⟩
theorem lc_takeWord {G : XG} {d : Nat} {h : XH} {Q : XV → XH → Prop} {X : Nat → XH → Prop} {n9 : Nat} {xs : Nat → Int32} {nm9 : String} {hq9 : List (Nat × Nat × Nat × Nat)} {s : CS} {F N M : Nat} {x5 : Int} (SC : SCR G n9 xs) (L : LI h s F N M) (t : F + N ≤ 511) (x0 : 0 ≤ x5) (x6 : x5 + 6 ≤ n9) (K : ∀ (h9 : XH) (s9 : CS) (F9 N9 M9 : Nat), LI h9 s9 F9 N9 M9 → F9 + N9 = F + N + 1 → xwp G (m_W_law nm9 hq9) (d + 220) 2018 [xR (-108), xR 0, xR 53, xR 91, xR 92, xI x5, xZ, xZ, xZ] [] h9 Q X) : xwp G (m_W_law nm9 hq9) (d + 220) 1160 [xR (-108), xR 0, xR 53, xR 91, xR 92, xI x5, xZ, xZ, xZ] [] h Q X := by
  have nx := L.1.fx.nx
  have n3 := SC.2.2
  have W : CWF s := L.1.wf
  have U : UQ s := L.2.2.1.1
  have m0 := L.2.2.2.1
  refine v_W_law_1160 SC L.1.fx ?_
  have e1 : (cTakeWord s).1.1 = 0 := rfl
  refine s_B_takeWord (n9 := 0) (s9 := 0) L.1 (by first | decide | omega) (by first | decide | omega) ⟨fun _ h1 C1 S1 n1 l1 => ?_, fun k e => absurd (e1.symm.trans e) (by omega)⟩
  have n1 : nxP h1 ≤ nxP h + 0 + 1 := by omega
  have l1 : slP h1 ≤ slP h + 0 + 6 := by omega
  have I1 := MIR.clB L.1.fx L.2.1 S1
  have r1 := L.rm1 t C1 n1 l1 (by first | decide | omega) (by first | decide | omega)
  have nx1 := C1.fx.nx
  refine v_W_law_1164 SC C1.fx ?_
  refine s_M_takeWord C1.fx I1.1 (n9 := 0) (s9 := 0) (by decide) (by decide) (MAN.mat (R := (cTakeWord s)) (fun h2 F2 I2 S2 e0 n2 l2 => ?_) C1.fx I1 rfl)
  have g := LI.no L C1 n1 l1 F2 I2 (S92 S2) n2 l2 L.2.2.1.takeWord (by show mC s ≤ mC s + 60; omega) (BUD.of (by show (0 : Int) + 1 + ((bC s).length : Int) + _ ≤ _; omega) (by show (0 : Int) + 6 + 130 * ((bC s).length : Int) + _ ≤ _; omega))
  have k := K h2 _ _ _ _ g (by omega)
  exact v_W_law_1168 SC F2 ⟨fun _ => k, fun y => absurd rfl y⟩
theorem lc_wordByte {G : XG} {d : Nat} {h : XH} {Q : XV → XH → Prop} {X : Nat → XH → Prop} {n9 : Nat} {xs : Nat → Int32} {nm9 : String} {hq9 : List (Nat × Nat × Nat × Nat)} {s : CS} {F N M : Nat} {x5 : Int} (SC : SCR G n9 xs) (L : LI h s F N M) (t : F + N ≤ 511) (x0 : 0 ≤ x5) (x6 : x5 + 6 ≤ n9) (K : ∀ (h9 : XH) (s9 : CS) (F9 N9 M9 : Nat), LI h9 s9 F9 N9 M9 → F9 + N9 = F + N + 1 → xwp G (m_W_law nm9 hq9) (d + 220) 2018 [xR (-108), xR 0, xR 53, xR 91, xR 92, xI x5, xZ, xZ, xZ] [] h9 Q X) : xwp G (m_W_law nm9 hq9) (d + 220) 1173 [xR (-108), xR 0, xR 53, xR 91, xR 92, xI x5, xZ, xZ, xZ] [] h Q X := by
  have nx := L.1.fx.nx
  have n3 := SC.2.2
  have W : CWF s := L.1.wf
  have U : UQ s := L.2.2.1.1
  have m0 := L.2.2.2.1
  refine v_W_law_1173 SC L.1.fx ⟨⟨by omega, by omega⟩, by omega, by omega, ?_⟩
  refine s_W_wordByte (n9 := 0) (s9 := 0) L.1 (L.room (by omega) (by decide) (by decide)) (by decide) (by decide) (fun h1 C1 S1 n1 l1 o1 => ?_)
  have I1 := MIR.clW L.1.fx L.2.1 S1 (Or.inl rfl)
  have r1 := L.rm1 t C1 n1 l1 (by first | decide | omega) (by first | decide | omega)
  have nx1 := C1.fx.nx
  refine v_W_law_1184 SC C1.fx ⟨⟨by omega, by omega⟩, by omega, by omega, ?_⟩
  refine p_M_wordByte C1.fx I1.1.2.2 W.2.2.2.1.1 (MAN.rd (R := (cWordByte s (scV xs (x5 + 1)))) (n9 := 0) (s9 := 0) (fun h2 F2 I2 S2 e0 n2 l2 => ?_) rfl I1 (by decide) (by decide))
  have g := LI.no L C1 n1 l1 F2 I2 (S92 S2) n2 l2 L.2.2.1 (by show mC s ≤ mC s + 60; omega) (BUD.of (by show (0 : Int) + 1 + ((bC s).length : Int) + _ ≤ _; omega) (by show (0 : Int) + 6 + 130 * ((bC s).length : Int) + _ ≤ _; omega))
  have k := K h2 _ _ _ _ g (by omega)
  have o2 : xpl h2 91 0 = xpl h1 91 0 := S2.pl (by omega) (by decide) 0
  have cod : (cWordByte s (scV xs (x5 + 1))).1.1 = 0 ∨ (cWordByte s (scV xs (x5 + 1))).1.1 ∈ ([3] : List Int) := by
    rcases cod_wordByte (s := s) (x := scV xs (x5 + 1)) with y | y <;> rw [y] <;> decide
  exact v_W_law_1196 SC F2 ⟨fun _ => ⟨fun z => ⟨fun _ => k, fun y => absurd (o2.trans (o1 (thr_0 z cod))) y⟩, fun _ => k⟩, fun y => absurd e0 y⟩
theorem lc_textsWith {G : XG} {d : Nat} {h : XH} {Q : XV → XH → Prop} {X : Nat → XH → Prop} {n9 : Nat} {xs : Nat → Int32} {nm9 : String} {hq9 : List (Nat × Nat × Nat × Nat)} {s : CS} {F N M : Nat} {x5 : Int} (SC : SCR G n9 xs) (L : LI h s F N M) (t : F + N ≤ 511) (x0 : 0 ≤ x5) (x6 : x5 + 6 ≤ n9) (K : ∀ (h9 : XH) (s9 : CS) (F9 N9 M9 : Nat), LI h9 s9 F9 N9 M9 → F9 + N9 = F + N + 1 → xwp G (m_W_law nm9 hq9) (d + 220) 2018 [xR (-108), xR 0, xR 53, xR 91, xR 92, xI x5, xZ, xZ, xZ] [] h9 Q X) : xwp G (m_W_law nm9 hq9) (d + 220) 1229 [xR (-108), xR 0, xR 53, xR 91, xR 92, xI x5, xZ, xZ, xZ] [] h Q X := by
  have nx := L.1.fx.nx
  have n3 := SC.2.2
  have W : CWF s := L.1.wf
  have U : UQ s := L.2.2.1.1
  have m0 := L.2.2.2.1
  refine v_W_law_1229 SC L.1.fx ⟨⟨by omega, by omega⟩, by omega, by omega, ?_⟩
  refine s_W_textsWith (n9 := 0) (s9 := 0) L.1 (L.room (by omega) (by decide) (by decide)) (by decide) (by decide) (fun h1 C1 S1 n1 l1 o1 => ?_)
  have I1 := MIR.clW L.1.fx L.2.1 S1 (Or.inl rfl)
  have r1 := L.rm1 t C1 n1 l1 (by first | decide | omega) (by first | decide | omega)
  have nx1 := C1.fx.nx
  refine v_W_law_1240 SC C1.fx ⟨⟨by omega, by omega⟩, by omega, by omega, ?_⟩
  refine p_M_textsWith C1.fx I1.1.2.1 W.1.1 I1.1.2.2 (MAN.rd (R := (cTextsWith s (scV xs (x5 + 1)))) (n9 := 0) (s9 := 0) (fun h2 F2 I2 S2 e0 n2 l2 => ?_) rfl I1 (by decide) (by decide))
  have g := LI.no L C1 n1 l1 F2 I2 (S92 S2) n2 l2 L.2.2.1 (by show mC s ≤ mC s + 60; omega) (BUD.of (by show (0 : Int) + 1 + ((bC s).length : Int) + _ ≤ _; omega) (by show (0 : Int) + 6 + 130 * ((bC s).length : Int) + _ ≤ _; omega))
  have k := K h2 _ _ _ _ g (by omega)
  have o2 : xpl h2 91 0 = xpl h1 91 0 := S2.pl (by omega) (by decide) 0
  have cod : (cTextsWith s (scV xs (x5 + 1))).1.1 = 0 ∨ (cTextsWith s (scV xs (x5 + 1))).1.1 ∈ ([3] : List Int) := by
    rcases cod_textsWith (s := s) (f := scV xs (x5 + 1)) with y | y <;> rw [y] <;> decide
  exact v_W_law_1252 SC F2 ⟨fun _ => ⟨fun z => ⟨fun _ => k, fun y => absurd (o2.trans (o1 (thr_0 z cod))) y⟩, fun _ => k⟩, fun y => absurd e0 y⟩
theorem lc_timesIn {G : XG} {d : Nat} {h : XH} {Q : XV → XH → Prop} {X : Nat → XH → Prop} {n9 : Nat} {xs : Nat → Int32} {nm9 : String} {hq9 : List (Nat × Nat × Nat × Nat)} {s : CS} {F N M : Nat} {x5 : Int} (SC : SCR G n9 xs) (L : LI h s F N M) (t : F + N ≤ 511) (x0 : 0 ≤ x5) (x6 : x5 + 6 ≤ n9) (K : ∀ (h9 : XH) (s9 : CS) (F9 N9 M9 : Nat), LI h9 s9 F9 N9 M9 → F9 + N9 = F + N + 1 → xwp G (m_W_law nm9 hq9) (d + 220) 2018 [xR (-108), xR 0, xR 53, xR 91, xR 92, xI x5, xZ, xZ, xZ] [] h9 Q X) : xwp G (m_W_law nm9 hq9) (d + 220) 1285 [xR (-108), xR 0, xR 53, xR 91, xR 92, xI x5, xZ, xZ, xZ] [] h Q X := by
  have nx := L.1.fx.nx
  have n3 := SC.2.2
  have W : CWF s := L.1.wf
  have U : UQ s := L.2.2.1.1
  have m0 := L.2.2.2.1
  refine v_W_law_1285 SC L.1.fx ⟨⟨by omega, by omega⟩, by omega, by omega, ⟨by omega, by omega⟩, by omega, by omega, ?_⟩
  refine s_W_timesIn (n9 := 0) (s9 := 0) L.1 (L.room (by omega) (by decide) (by decide)) (by decide) (by decide) (fun h1 C1 S1 n1 l1 o1 => ?_)
  have I1 := MIR.clW L.1.fx L.2.1 S1 (Or.inl rfl)
  have r1 := L.rm1 t C1 n1 l1 (by first | decide | omega) (by first | decide | omega)
  have nx1 := C1.fx.nx
  refine v_W_law_1302 SC C1.fx ⟨⟨by omega, by omega⟩, by omega, by omega, ⟨by omega, by omega⟩, by omega, by omega, ?_⟩
  refine p_M_timesIn C1.fx I1.1.2.1 W.1.1 I1.1.2.2 (MAN.rd (R := (cTimesIn s (scV xs (x5 + 1)) (scV xs (x5 + 2)))) (n9 := 0) (s9 := 0) (fun h2 F2 I2 S2 e0 n2 l2 => ?_) rfl I1 (by decide) (by decide))
  have g := LI.no L C1 n1 l1 F2 I2 (S92 S2) n2 l2 L.2.2.1 (by show mC s ≤ mC s + 60; omega) (BUD.of (by show (0 : Int) + 1 + ((bC s).length : Int) + _ ≤ _; omega) (by show (0 : Int) + 6 + 130 * ((bC s).length : Int) + _ ≤ _; omega))
  have k := K h2 _ _ _ _ g (by omega)
  have o2 : xpl h2 91 0 = xpl h1 91 0 := S2.pl (by omega) (by decide) 0
  have cod : (cTimesIn s (scV xs (x5 + 1)) (scV xs (x5 + 2))).1.1 = 0 ∨ (cTimesIn s (scV xs (x5 + 1)) (scV xs (x5 + 2))).1.1 ∈ ([1, 3] : List Int) := by
    rcases cod_timesIn (s := s) (k := scV xs (x5 + 1)) (f := scV xs (x5 + 2)) with y | y | y <;> rw [y] <;> decide
  exact v_W_law_1320 SC F2 ⟨fun _ => ⟨fun z => ⟨fun _ => k, fun y => absurd (o2.trans (o1 (thr_0 z cod))) y⟩, fun _ => k⟩, fun y => absurd e0 y⟩
theorem lc_rarity {G : XG} {d : Nat} {h : XH} {Q : XV → XH → Prop} {X : Nat → XH → Prop} {n9 : Nat} {xs : Nat → Int32} {nm9 : String} {hq9 : List (Nat × Nat × Nat × Nat)} {s : CS} {F N M : Nat} {x5 : Int} (SC : SCR G n9 xs) (L : LI h s F N M) (t : F + N ≤ 511) (x0 : 0 ≤ x5) (x6 : x5 + 6 ≤ n9) (K : ∀ (h9 : XH) (s9 : CS) (F9 N9 M9 : Nat), LI h9 s9 F9 N9 M9 → F9 + N9 = F + N + 1 → xwp G (m_W_law nm9 hq9) (d + 220) 2018 [xR (-108), xR 0, xR 53, xR 91, xR 92, xI x5, xZ, xZ, xZ] [] h9 Q X) : xwp G (m_W_law nm9 hq9) (d + 220) 1353 [xR (-108), xR 0, xR 53, xR 91, xR 92, xI x5, xZ, xZ, xZ] [] h Q X := by
  have nx := L.1.fx.nx
  have n3 := SC.2.2
  have W : CWF s := L.1.wf
  have U : UQ s := L.2.2.1.1
  have m0 := L.2.2.2.1
  refine v_W_law_1353 SC L.1.fx ⟨⟨by omega, by omega⟩, by omega, by omega, ?_⟩
  refine s_W_rarity (n9 := 0) (s9 := 0) L.1 (L.room (by omega) (by decide) (by decide)) (by decide) (by decide) (fun h1 C1 S1 n1 l1 o1 => ?_)
  have I1 := MIR.clW L.1.fx L.2.1 S1 (Or.inl rfl)
  have r1 := L.rm1 t C1 n1 l1 (by first | decide | omega) (by first | decide | omega)
  have nx1 := C1.fx.nx
  refine v_W_law_1364 SC C1.fx ⟨⟨by omega, by omega⟩, by omega, by omega, ?_⟩
  refine p_M_rarity C1.fx I1.1.2.1 W.1.1 I1.1.2.2 (MAN.rd (R := (cRarity s (scV xs (x5 + 1)))) (n9 := 0) (s9 := 0) (fun h2 F2 I2 S2 e0 n2 l2 => ?_) rfl I1 (by decide) (by decide))
  have g := LI.no L C1 n1 l1 F2 I2 (S92 S2) n2 l2 L.2.2.1 (by show mC s ≤ mC s + 60; omega) (BUD.of (by show (0 : Int) + 1 + ((bC s).length : Int) + _ ≤ _; omega) (by show (0 : Int) + 6 + 130 * ((bC s).length : Int) + _ ≤ _; omega))
  have k := K h2 _ _ _ _ g (by omega)
  have o2 : xpl h2 91 0 = xpl h1 91 0 := S2.pl (by omega) (by decide) 0
  have cod : (cRarity s (scV xs (x5 + 1))).1.1 = 0 ∨ (cRarity s (scV xs (x5 + 1))).1.1 ∈ ([3] : List Int) := by
    rcases cod_rarity (s := s) (f := scV xs (x5 + 1)) with y | y <;> rw [y] <;> decide
  exact v_W_law_1376 SC F2 ⟨fun _ => ⟨fun z => ⟨fun _ => k, fun y => absurd (o2.trans (o1 (thr_0 z cod))) y⟩, fun _ => k⟩, fun y => absurd e0 y⟩
theorem lc_nearest {G : XG} {d : Nat} {h : XH} {Q : XV → XH → Prop} {X : Nat → XH → Prop} {n9 : Nat} {xs : Nat → Int32} {nm9 : String} {hq9 : List (Nat × Nat × Nat × Nat)} {s : CS} {F N M : Nat} {x5 : Int} (SC : SCR G n9 xs) (L : LI h s F N M) (t : F + N ≤ 511) (x0 : 0 ≤ x5) (x6 : x5 + 6 ≤ n9) (K : ∀ (h9 : XH) (s9 : CS) (F9 N9 M9 : Nat), LI h9 s9 F9 N9 M9 → F9 + N9 = F + N + 1 → xwp G (m_W_law nm9 hq9) (d + 220) 2018 [xR (-108), xR 0, xR 53, xR 91, xR 92, xI x5, xZ, xZ, xZ] [] h9 Q X) : xwp G (m_W_law nm9 hq9) (d + 220) 1409 [xR (-108), xR 0, xR 53, xR 91, xR 92, xI x5, xZ, xZ, xZ] [] h Q X := by
  have nx := L.1.fx.nx
  have n3 := SC.2.2
  have W : CWF s := L.1.wf
  have U : UQ s := L.2.2.1.1
  have m0 := L.2.2.2.1
  have so := so_k (T := ((10 * F : Nat) : Int)) (F := F) rfl (by omega)
  have pt := pt_nearest s
  refine v_W_law_1409 SC L.1.fx ?_
  have e1 : (cNearest s).1.1 = 0 := pt.2.2.2
  refine s_B_nearest (n9 := 0) (s9 := 0) L.1 (L.room (by omega) (by first | decide | omega) (by first | decide | omega)) (by first | decide | omega) (by first | decide | omega) ⟨fun _ h1 C1 S1 n1 l1 => ?_, fun k e => absurd (e1.symm.trans e) (by omega)⟩
  have n1 : nxP h1 ≤ nxP h + 0 + 1 := by omega
  have l1 : slP h1 ≤ slP h + 0 + 6 := by omega
  have I1 := MIR.clB L.1.fx L.2.1 S1
  have r1 := L.rm1 t C1 n1 l1 (by first | decide | omega) (by first | decide | omega)
  have nx1 := C1.fx.nx
  refine v_W_law_1413 SC C1.fx ?_
  refine s_M_nearest C1.fx I1.1 W (T := ((10 * F : Nat) : Int)) L.2.2.1.tw (by omega) (by omega) (by omega) (n9 := 250) (s9 := 4 * ((10 * F : Nat) : Int) + kS 64 ((10 * F : Nat) : Int) 0) (by omega) (by omega) (MAN.mat (R := (cNearest s)) (fun h2 F2 I2 S2 e0 n2 l2 => ?_) C1.fx I1 pt.1)
  have g := LI.no L C1 n1 l1 F2 I2 (S92 S2) n2 l2 L.2.2.1.nearest (by rw [pt.2.1]; omega) (BUD.so (by rw [pt.2.2.1]; omega) (by rw [pt.2.2.1]; omega))
  have k := K h2 _ _ _ _ g (by omega)
  exact v_W_law_1417 SC F2 ⟨fun _ => k, fun y => absurd rfl y⟩
theorem lc_ask {G : XG} {d : Nat} {h : XH} {Q : XV → XH → Prop} {X : Nat → XH → Prop} {n9 : Nat} {xs : Nat → Int32} {nm9 : String} {hq9 : List (Nat × Nat × Nat × Nat)} {s : CS} {F N M : Nat} {x5 : Int} (SC : SCR G n9 xs) (L : LI h s F N M) (t : F + N ≤ 511) (x0 : 0 ≤ x5) (x6 : x5 + 6 ≤ n9) (K : ∀ (h9 : XH) (s9 : CS) (F9 N9 M9 : Nat), LI h9 s9 F9 N9 M9 → F9 + N9 = F + N + 1 → xwp G (m_W_law nm9 hq9) (d + 220) 2018 [xR (-108), xR 0, xR 53, xR 91, xR 92, xI x5, xZ, xZ, xZ] [] h9 Q X) : xwp G (m_W_law nm9 hq9) (d + 220) 1422 [xR (-108), xR 0, xR 53, xR 91, xR 92, xI x5, xZ, xZ, xZ] [] h Q X := by
  have nx := L.1.fx.nx
  have n3 := SC.2.2
  have W : CWF s := L.1.wf
  have U : UQ s := L.2.2.1.1
  have m0 := L.2.2.2.1
  have pt := pt_ask s
  refine v_W_law_1422 SC L.1.fx ?_
  have e1 : (cAsk s).1.1 = 0 := pt.2.2
  refine s_B_ask (n9 := 500) (s9 := 6600) L.1 (L.room (by omega) (by first | decide | omega) (by first | decide | omega)) (by first | decide | omega) (by first | decide | omega) ⟨fun _ h1 C1 S1 n1 l1 => ?_, fun k e => absurd (e1.symm.trans e) (by omega)⟩
  have n1 : nxP h1 ≤ nxP h + 500 + 1 := by omega
  have l1 : slP h1 ≤ slP h + 6600 + 6 := by omega
  have I1 := MIR.clB L.1.fx L.2.1 S1
  have r1 := L.rm1 t C1 n1 l1 (by first | decide | omega) (by first | decide | omega)
  have nx1 := C1.fx.nx
  refine v_W_law_1426 SC C1.fx ?_
  refine s_M_askw C1.fx I1 C1.wf C1.ptok (by omega) (by omega) (n9 := 12) (s9 := 480) (by decide) (by decide) (fun h2 F2 I2 S2 e0 n2 l2 => ?_)
  have g := LI.no L C1 n1 l1 F2 I2 S2 n2 l2 L.2.2.1.ask (by rw [pt.1]; omega) (BUD.of (by rw [pt.2.1]; omega) (by rw [pt.2.1]; omega))
  have k := K h2 _ _ _ _ g (by omega)
  exact v_W_law_1430 SC F2 ⟨fun _ => k, fun y => absurd rfl y⟩
theorem lc_parts {G : XG} {d : Nat} {h : XH} {Q : XV → XH → Prop} {X : Nat → XH → Prop} {n9 : Nat} {xs : Nat → Int32} {nm9 : String} {hq9 : List (Nat × Nat × Nat × Nat)} {s : CS} {F N M : Nat} {x5 : Int} (SC : SCR G n9 xs) (L : LI h s F N M) (t : F + N ≤ 511) (x0 : 0 ≤ x5) (x6 : x5 + 6 ≤ n9) (K : ∀ (h9 : XH) (s9 : CS) (F9 N9 M9 : Nat), LI h9 s9 F9 N9 M9 → F9 + N9 = F + N + 1 → xwp G (m_W_law nm9 hq9) (d + 220) 2018 [xR (-108), xR 0, xR 53, xR 91, xR 92, xI x5, xZ, xZ, xZ] [] h9 Q X) : xwp G (m_W_law nm9 hq9) (d + 220) 1435 [xR (-108), xR 0, xR 53, xR 91, xR 92, xI x5, xZ, xZ, xZ] [] h Q X := by
  have nx := L.1.fx.nx
  have n3 := SC.2.2
  have W : CWF s := L.1.wf
  have U : UQ s := L.2.2.1.1
  have m0 := L.2.2.2.1
  refine v_W_law_1435 SC L.1.fx ?_
  refine s_W_parts (n9 := 0) (s9 := 0) L.1 (L.room (by omega) (by decide) (by decide)) (by decide) (by decide) (fun h1 C1 S1 n1 l1 o1 => ?_)
  have I1 := MIR.clW L.1.fx L.2.1 S1 (Or.inl rfl)
  have r1 := L.rm1 t C1 n1 l1 (by first | decide | omega) (by first | decide | omega)
  have nx1 := C1.fx.nx
  refine v_W_law_1440 SC C1.fx ?_
  refine s_M_parts C1.fx I1 W (MAN.maq (R := (cParts s)) (n9 := 0) (s9 := 0) (fun h2 F2 I2 S2 e0 n2 l2 => ?_) rfl (by decide) (by decide))
  have g := LI.no L C1 n1 l1 F2 I2 (S92 S2) n2 l2 L.2.2.1 (by show mC s ≤ mC s + 60; omega) (BUD.of (by show (0 : Int) + 1 + ((bC s).length : Int) + _ ≤ _; omega) (by show (0 : Int) + 6 + 130 * ((bC s).length : Int) + _ ≤ _; omega))
  have k := K h2 _ _ _ _ g (by omega)
  have o2 : xpl h2 91 0 = xpl h1 91 0 := S2.pl (by omega) (by decide) 0
  have cod : (cParts s).1.1 = 0 ∨ (cParts s).1.1 ∈ ([2] : List Int) := by
    rcases cod_parts (s := s) with y | y <;> rw [y] <;> decide
  exact v_W_law_1446 SC F2 ⟨fun _ => ⟨fun z => ⟨fun _ => k, fun y => absurd (o2.trans (o1 (thr_0 z cod))) y⟩, fun _ => k⟩, fun y => absurd e0 y⟩
theorem lc_found {G : XG} {d : Nat} {h : XH} {Q : XV → XH → Prop} {X : Nat → XH → Prop} {n9 : Nat} {xs : Nat → Int32} {nm9 : String} {hq9 : List (Nat × Nat × Nat × Nat)} {s : CS} {F N M : Nat} {x5 : Int} (SC : SCR G n9 xs) (L : LI h s F N M) (t : F + N ≤ 511) (x0 : 0 ≤ x5) (x6 : x5 + 6 ≤ n9) (K : ∀ (h9 : XH) (s9 : CS) (F9 N9 M9 : Nat), LI h9 s9 F9 N9 M9 → F9 + N9 = F + N + 1 → xwp G (m_W_law nm9 hq9) (d + 220) 2018 [xR (-108), xR 0, xR 53, xR 91, xR 92, xI x5, xZ, xZ, xZ] [] h9 Q X) : xwp G (m_W_law nm9 hq9) (d + 220) 1479 [xR (-108), xR 0, xR 53, xR 91, xR 92, xI x5, xZ, xZ, xZ] [] h Q X := by
  have nx := L.1.fx.nx
  have n3 := SC.2.2
  have W : CWF s := L.1.wf
  have U : UQ s := L.2.2.1.1
  have m0 := L.2.2.2.1
  refine v_W_law_1479 SC L.1.fx ?_
  refine s_W_found (n9 := 0) (s9 := 0) L.1 (L.room (by omega) (by decide) (by decide)) (by decide) (by decide) (fun h1 C1 S1 n1 l1 o1 => ?_)
  have I1 := MIR.clW L.1.fx L.2.1 S1 (Or.inl rfl)
  have r1 := L.rm1 t C1 n1 l1 (by first | decide | omega) (by first | decide | omega)
  have nx1 := C1.fx.nx
  refine v_W_law_1484 SC C1.fx ?_
  refine s_M_found C1.fx I1 W (MAN.maq (R := (cFound s)) (n9 := 0) (s9 := 0) (fun h2 F2 I2 S2 e0 n2 l2 => ?_) rfl (by decide) (by decide))
  have g := LI.no L C1 n1 l1 F2 I2 (S92 S2) n2 l2 L.2.2.1 (by show mC s ≤ mC s + 60; omega) (BUD.of (by show (0 : Int) + 1 + ((bC s).length : Int) + _ ≤ _; omega) (by show (0 : Int) + 6 + 130 * ((bC s).length : Int) + _ ≤ _; omega))
  have k := K h2 _ _ _ _ g (by omega)
  have o2 : xpl h2 91 0 = xpl h1 91 0 := S2.pl (by omega) (by decide) 0
  have cod : (cFound s).1.1 = 0 ∨ (cFound s).1.1 ∈ ([2] : List Int) := by
    rcases cod_found (s := s) with y | y <;> rw [y] <;> decide
  exact v_W_law_1490 SC F2 ⟨fun _ => ⟨fun z => ⟨fun _ => k, fun y => absurd (o2.trans (o1 (thr_0 z cod))) y⟩, fun _ => k⟩, fun y => absurd e0 y⟩
theorem lc_keyFound {G : XG} {d : Nat} {h : XH} {Q : XV → XH → Prop} {X : Nat → XH → Prop} {n9 : Nat} {xs : Nat → Int32} {nm9 : String} {hq9 : List (Nat × Nat × Nat × Nat)} {s : CS} {F N M : Nat} {x5 : Int} (SC : SCR G n9 xs) (L : LI h s F N M) (t : F + N ≤ 511) (x0 : 0 ≤ x5) (x6 : x5 + 6 ≤ n9) (K : ∀ (h9 : XH) (s9 : CS) (F9 N9 M9 : Nat), LI h9 s9 F9 N9 M9 → F9 + N9 = F + N + 1 → xwp G (m_W_law nm9 hq9) (d + 220) 2018 [xR (-108), xR 0, xR 53, xR 91, xR 92, xI x5, xZ, xZ, xZ] [] h9 Q X) : xwp G (m_W_law nm9 hq9) (d + 220) 1523 [xR (-108), xR 0, xR 53, xR 91, xR 92, xI x5, xZ, xZ, xZ] [] h Q X := by
  have nx := L.1.fx.nx
  have n3 := SC.2.2
  have W : CWF s := L.1.wf
  have U : UQ s := L.2.2.1.1
  have m0 := L.2.2.2.1
  refine v_W_law_1523 SC L.1.fx ⟨⟨by omega, by omega⟩, by omega, by omega, ?_⟩
  refine s_W_keyFound (n9 := 0) (s9 := 0) L.1 (L.room (by omega) (by decide) (by decide)) (by decide) (by decide) (fun h1 C1 S1 n1 l1 o1 => ?_)
  have I1 := MIR.clW L.1.fx L.2.1 S1 (Or.inl rfl)
  have r1 := L.rm1 t C1 n1 l1 (by first | decide | omega) (by first | decide | omega)
  have nx1 := C1.fx.nx
  refine v_W_law_1534 SC C1.fx ⟨⟨by omega, by omega⟩, by omega, by omega, ?_⟩
  refine s_M_keyFound C1.fx I1 W (MAN.maq (R := (cKeyFound s (scV xs (x5 + 1)))) (n9 := 0) (s9 := 0) (fun h2 F2 I2 S2 e0 n2 l2 => ?_) rfl (by decide) (by decide))
  have g := LI.no L C1 n1 l1 F2 I2 (S92 S2) n2 l2 L.2.2.1 (by show mC s ≤ mC s + 60; omega) (BUD.of (by show (0 : Int) + 1 + ((bC s).length : Int) + _ ≤ _; omega) (by show (0 : Int) + 6 + 130 * ((bC s).length : Int) + _ ≤ _; omega))
  have k := K h2 _ _ _ _ g (by omega)
  have o2 : xpl h2 91 0 = xpl h1 91 0 := S2.pl (by omega) (by decide) 0
  have cod : (cKeyFound s (scV xs (x5 + 1))).1.1 = 0 ∨ (cKeyFound s (scV xs (x5 + 1))).1.1 ∈ ([2, 3] : List Int) := by
    rcases cod_keyFound (s := s) (p := scV xs (x5 + 1)) with y | y | y <;> rw [y] <;> decide
  exact v_W_law_1546 SC F2 ⟨fun _ => ⟨fun z => ⟨fun _ => k, fun y => absurd (o2.trans (o1 (thr_0 z cod))) y⟩, fun _ => k⟩, fun y => absurd e0 y⟩
theorem lc_weightFound {G : XG} {d : Nat} {h : XH} {Q : XV → XH → Prop} {X : Nat → XH → Prop} {n9 : Nat} {xs : Nat → Int32} {nm9 : String} {hq9 : List (Nat × Nat × Nat × Nat)} {s : CS} {F N M : Nat} {x5 : Int} (SC : SCR G n9 xs) (L : LI h s F N M) (t : F + N ≤ 511) (x0 : 0 ≤ x5) (x6 : x5 + 6 ≤ n9) (K : ∀ (h9 : XH) (s9 : CS) (F9 N9 M9 : Nat), LI h9 s9 F9 N9 M9 → F9 + N9 = F + N + 1 → xwp G (m_W_law nm9 hq9) (d + 220) 2018 [xR (-108), xR 0, xR 53, xR 91, xR 92, xI x5, xZ, xZ, xZ] [] h9 Q X) : xwp G (m_W_law nm9 hq9) (d + 220) 1579 [xR (-108), xR 0, xR 53, xR 91, xR 92, xI x5, xZ, xZ, xZ] [] h Q X := by
  have nx := L.1.fx.nx
  have n3 := SC.2.2
  have W : CWF s := L.1.wf
  have U : UQ s := L.2.2.1.1
  have m0 := L.2.2.2.1
  refine v_W_law_1579 SC L.1.fx ⟨⟨by omega, by omega⟩, by omega, by omega, ?_⟩
  refine s_W_weightFound (n9 := 0) (s9 := 0) L.1 (L.room (by omega) (by decide) (by decide)) (by decide) (by decide) (fun h1 C1 S1 n1 l1 o1 => ?_)
  have I1 := MIR.clW L.1.fx L.2.1 S1 (Or.inl rfl)
  have r1 := L.rm1 t C1 n1 l1 (by first | decide | omega) (by first | decide | omega)
  have nx1 := C1.fx.nx
  refine v_W_law_1590 SC C1.fx ⟨⟨by omega, by omega⟩, by omega, by omega, ?_⟩
  refine s_M_weightFound C1.fx I1 W (MAN.maq (R := (cWeightFound s (scV xs (x5 + 1)))) (n9 := 0) (s9 := 0) (fun h2 F2 I2 S2 e0 n2 l2 => ?_) rfl (by decide) (by decide))
  have g := LI.no L C1 n1 l1 F2 I2 (S92 S2) n2 l2 L.2.2.1 (by show mC s ≤ mC s + 60; omega) (BUD.of (by show (0 : Int) + 1 + ((bC s).length : Int) + _ ≤ _; omega) (by show (0 : Int) + 6 + 130 * ((bC s).length : Int) + _ ≤ _; omega))
  have k := K h2 _ _ _ _ g (by omega)
  have o2 : xpl h2 91 0 = xpl h1 91 0 := S2.pl (by omega) (by decide) 0
  have cod : (cWeightFound s (scV xs (x5 + 1))).1.1 = 0 ∨ (cWeightFound s (scV xs (x5 + 1))).1.1 ∈ ([2, 3] : List Int) := by
    rcases cod_weightFound (s := s) (p := scV xs (x5 + 1)) with y | y | y <;> rw [y] <;> decide
  exact v_W_law_1602 SC F2 ⟨fun _ => ⟨fun z => ⟨fun _ => k, fun y => absurd (o2.trans (o1 (thr_0 z cod))) y⟩, fun _ => k⟩, fun y => absurd e0 y⟩
theorem lc_foundOn {G : XG} {d : Nat} {h : XH} {Q : XV → XH → Prop} {X : Nat → XH → Prop} {n9 : Nat} {xs : Nat → Int32} {nm9 : String} {hq9 : List (Nat × Nat × Nat × Nat)} {s : CS} {F N M : Nat} {x5 : Int} (SC : SCR G n9 xs) (L : LI h s F N M) (t : F + N ≤ 511) (x0 : 0 ≤ x5) (x6 : x5 + 6 ≤ n9) (K : ∀ (h9 : XH) (s9 : CS) (F9 N9 M9 : Nat), LI h9 s9 F9 N9 M9 → F9 + N9 = F + N + 1 → xwp G (m_W_law nm9 hq9) (d + 220) 2018 [xR (-108), xR 0, xR 53, xR 91, xR 92, xI x5, xZ, xZ, xZ] [] h9 Q X) : xwp G (m_W_law nm9 hq9) (d + 220) 1635 [xR (-108), xR 0, xR 53, xR 91, xR 92, xI x5, xZ, xZ, xZ] [] h Q X := by
  have nx := L.1.fx.nx
  have n3 := SC.2.2
  have W : CWF s := L.1.wf
  have U : UQ s := L.2.2.1.1
  have m0 := L.2.2.2.1
  refine v_W_law_1635 SC L.1.fx ⟨⟨by omega, by omega⟩, by omega, by omega, ?_⟩
  refine s_W_foundOn (n9 := 0) (s9 := 0) L.1 (L.room (by omega) (by decide) (by decide)) (by decide) (by decide) (fun h1 C1 S1 n1 l1 o1 => ?_)
  have I1 := MIR.clW L.1.fx L.2.1 S1 (Or.inl rfl)
  have r1 := L.rm1 t C1 n1 l1 (by first | decide | omega) (by first | decide | omega)
  have nx1 := C1.fx.nx
  refine v_W_law_1646 SC C1.fx ⟨⟨by omega, by omega⟩, by omega, by omega, ?_⟩
  refine s_M_foundOn C1.fx I1 W (MAN.maq (R := (cFoundOn s (scV xs (x5 + 1)))) (n9 := 0) (s9 := 0) (fun h2 F2 I2 S2 e0 n2 l2 => ?_) rfl (by decide) (by decide))
  have g := LI.no L C1 n1 l1 F2 I2 (S92 S2) n2 l2 L.2.2.1 (by show mC s ≤ mC s + 60; omega) (BUD.of (by show (0 : Int) + 1 + ((bC s).length : Int) + _ ≤ _; omega) (by show (0 : Int) + 6 + 130 * ((bC s).length : Int) + _ ≤ _; omega))
  have k := K h2 _ _ _ _ g (by omega)
  have o2 : xpl h2 91 0 = xpl h1 91 0 := S2.pl (by omega) (by decide) 0
  have cod : (cFoundOn s (scV xs (x5 + 1))).1.1 = 0 ∨ (cFoundOn s (scV xs (x5 + 1))).1.1 ∈ ([2, 3] : List Int) := by
    rcases cod_foundOn (s := s) (sh := scV xs (x5 + 1)) with y | y | y <;> rw [y] <;> decide
  exact v_W_law_1658 SC F2 ⟨fun _ => ⟨fun z => ⟨fun _ => k, fun y => absurd (o2.trans (o1 (thr_0 z cod))) y⟩, fun _ => k⟩, fun y => absurd e0 y⟩
theorem lc_placeOf {G : XG} {d : Nat} {h : XH} {Q : XV → XH → Prop} {X : Nat → XH → Prop} {n9 : Nat} {xs : Nat → Int32} {nm9 : String} {hq9 : List (Nat × Nat × Nat × Nat)} {s : CS} {F N M : Nat} {x5 : Int} (SC : SCR G n9 xs) (L : LI h s F N M) (t : F + N ≤ 511) (x0 : 0 ≤ x5) (x6 : x5 + 6 ≤ n9) (K : ∀ (h9 : XH) (s9 : CS) (F9 N9 M9 : Nat), LI h9 s9 F9 N9 M9 → F9 + N9 = F + N + 1 → xwp G (m_W_law nm9 hq9) (d + 220) 2018 [xR (-108), xR 0, xR 53, xR 91, xR 92, xI x5, xZ, xZ, xZ] [] h9 Q X) : xwp G (m_W_law nm9 hq9) (d + 220) 1691 [xR (-108), xR 0, xR 53, xR 91, xR 92, xI x5, xZ, xZ, xZ] [] h Q X := by
  have nx := L.1.fx.nx
  have n3 := SC.2.2
  have W : CWF s := L.1.wf
  have U : UQ s := L.2.2.1.1
  have m0 := L.2.2.2.1
  refine v_W_law_1691 SC L.1.fx ⟨⟨by omega, by omega⟩, by omega, by omega, ?_⟩
  refine s_W_placeOf (n9 := 0) (s9 := 0) L.1 (L.room (by omega) (by decide) (by decide)) (by decide) (by decide) (fun h1 C1 S1 n1 l1 o1 => ?_)
  have I1 := MIR.clW L.1.fx L.2.1 S1 (Or.inl rfl)
  have r1 := L.rm1 t C1 n1 l1 (by first | decide | omega) (by first | decide | omega)
  have nx1 := C1.fx.nx
  refine v_W_law_1702 SC C1.fx ⟨⟨by omega, by omega⟩, by omega, by omega, ?_⟩
  refine s_M_placeOf C1.fx I1 W (MAN.maq (R := (cPlaceOf s (scV xs (x5 + 1)))) (n9 := 0) (s9 := 0) (fun h2 F2 I2 S2 e0 n2 l2 => ?_) rfl (by decide) (by decide))
  have g := LI.no L C1 n1 l1 F2 I2 (S92 S2) n2 l2 L.2.2.1 (by show mC s ≤ mC s + 60; omega) (BUD.of (by show (0 : Int) + 1 + ((bC s).length : Int) + _ ≤ _; omega) (by show (0 : Int) + 6 + 130 * ((bC s).length : Int) + _ ≤ _; omega))
  have k := K h2 _ _ _ _ g (by omega)
  have o2 : xpl h2 91 0 = xpl h1 91 0 := S2.pl (by omega) (by decide) 0
  have cod : (cPlaceOf s (scV xs (x5 + 1))).1.1 = 0 ∨ (cPlaceOf s (scV xs (x5 + 1))).1.1 ∈ ([2, 1] : List Int) := by
    rcases cod_placeOf (s := s) (k := scV xs (x5 + 1)) with y | y | y <;> rw [y] <;> decide
  exact v_W_law_1714 SC F2 ⟨fun _ => ⟨fun z => ⟨fun _ => k, fun y => absurd (o2.trans (o1 (thr_0 z cod))) y⟩, fun _ => k⟩, fun y => absurd e0 y⟩
theorem lc_partWeight {G : XG} {d : Nat} {h : XH} {Q : XV → XH → Prop} {X : Nat → XH → Prop} {n9 : Nat} {xs : Nat → Int32} {nm9 : String} {hq9 : List (Nat × Nat × Nat × Nat)} {s : CS} {F N M : Nat} {x5 : Int} (SC : SCR G n9 xs) (L : LI h s F N M) (t : F + N ≤ 511) (x0 : 0 ≤ x5) (x6 : x5 + 6 ≤ n9) (K : ∀ (h9 : XH) (s9 : CS) (F9 N9 M9 : Nat), LI h9 s9 F9 N9 M9 → F9 + N9 = F + N + 1 → xwp G (m_W_law nm9 hq9) (d + 220) 2018 [xR (-108), xR 0, xR 53, xR 91, xR 92, xI x5, xZ, xZ, xZ] [] h9 Q X) : xwp G (m_W_law nm9 hq9) (d + 220) 1747 [xR (-108), xR 0, xR 53, xR 91, xR 92, xI x5, xZ, xZ, xZ] [] h Q X := by
  have nx := L.1.fx.nx
  have n3 := SC.2.2
  have W : CWF s := L.1.wf
  have U : UQ s := L.2.2.1.1
  have m0 := L.2.2.2.1
  refine v_W_law_1747 SC L.1.fx ⟨⟨by omega, by omega⟩, by omega, by omega, ⟨by omega, by omega⟩, by omega, by omega, ?_⟩
  refine s_W_partWeight (n9 := 0) (s9 := 0) L.1 (L.room (by omega) (by decide) (by decide)) (by decide) (by decide) (fun h1 C1 S1 n1 l1 o1 => ?_)
  have I1 := MIR.clW L.1.fx L.2.1 S1 (Or.inl rfl)
  have r1 := L.rm1 t C1 n1 l1 (by first | decide | omega) (by first | decide | omega)
  have nx1 := C1.fx.nx
  refine v_W_law_1764 SC C1.fx ⟨⟨by omega, by omega⟩, by omega, by omega, ⟨by omega, by omega⟩, by omega, by omega, ?_⟩
  refine s_M_partWeight C1.fx I1 W (MAN.maq (R := (cPartWeight s (scV xs (x5 + 1)) (scV xs (x5 + 2)))) (n9 := 0) (s9 := 0) (fun h2 F2 I2 S2 e0 n2 l2 => ?_) rfl (by decide) (by decide))
  have g := LI.no L C1 n1 l1 F2 I2 (S92 S2) n2 l2 L.2.2.1 (by show mC s ≤ mC s + 60; omega) (BUD.of (by show (0 : Int) + 1 + ((bC s).length : Int) + _ ≤ _; omega) (by show (0 : Int) + 6 + 130 * ((bC s).length : Int) + _ ≤ _; omega))
  have k := K h2 _ _ _ _ g (by omega)
  have o2 : xpl h2 91 0 = xpl h1 91 0 := S2.pl (by omega) (by decide) 0
  have cod : (cPartWeight s (scV xs (x5 + 1)) (scV xs (x5 + 2))).1.1 = 0 ∨ (cPartWeight s (scV xs (x5 + 1)) (scV xs (x5 + 2))).1.1 ∈ ([2, 1, 3] : List Int) := by
    rcases cod_partWeight (s := s) (k := scV xs (x5 + 1)) (p := scV xs (x5 + 2)) with y | y | y | y <;> rw [y] <;> decide
  exact v_W_law_1782 SC F2 ⟨fun _ => ⟨fun z => ⟨fun _ => k, fun y => absurd (o2.trans (o1 (thr_0 z cod))) y⟩, fun _ => k⟩, fun y => absurd e0 y⟩
theorem lc_foundWithout {G : XG} {d : Nat} {h : XH} {Q : XV → XH → Prop} {X : Nat → XH → Prop} {n9 : Nat} {xs : Nat → Int32} {nm9 : String} {hq9 : List (Nat × Nat × Nat × Nat)} {s : CS} {F N M : Nat} {x5 : Int} (SC : SCR G n9 xs) (L : LI h s F N M) (t : F + N ≤ 511) (x0 : 0 ≤ x5) (x6 : x5 + 6 ≤ n9) (K : ∀ (h9 : XH) (s9 : CS) (F9 N9 M9 : Nat), LI h9 s9 F9 N9 M9 → F9 + N9 = F + N + 1 → xwp G (m_W_law nm9 hq9) (d + 220) 2018 [xR (-108), xR 0, xR 53, xR 91, xR 92, xI x5, xZ, xZ, xZ] [] h9 Q X) : xwp G (m_W_law nm9 hq9) (d + 220) 1815 [xR (-108), xR 0, xR 53, xR 91, xR 92, xI x5, xZ, xZ, xZ] [] h Q X := by
  have nx := L.1.fx.nx
  have n3 := SC.2.2
  have W : CWF s := L.1.wf
  have U : UQ s := L.2.2.1.1
  have m0 := L.2.2.2.1
  refine v_W_law_1815 SC L.1.fx ⟨⟨by omega, by omega⟩, by omega, by omega, ?_⟩
  refine s_W_foundWithout (n9 := 0) (s9 := 0) L.1 (L.room (by omega) (by decide) (by decide)) (by decide) (by decide) (fun h1 C1 S1 n1 l1 o1 => ?_)
  have I1 := MIR.clW L.1.fx L.2.1 S1 (Or.inl rfl)
  have r1 := L.rm1 t C1 n1 l1 (by first | decide | omega) (by first | decide | omega)
  have nx1 := C1.fx.nx
  refine v_W_law_1826 SC C1.fx ⟨⟨by omega, by omega⟩, by omega, by omega, ?_⟩
  refine s_M_foundWithout C1.fx I1 W (MAN.maq (R := (cFoundWithout s (scV xs (x5 + 1)))) (n9 := 0) (s9 := 0) (fun h2 F2 I2 S2 e0 n2 l2 => ?_) rfl (by decide) (by decide))
  have g := LI.no L C1 n1 l1 F2 I2 (S92 S2) n2 l2 L.2.2.1 (by show mC s ≤ mC s + 60; omega) (BUD.of (by show (0 : Int) + 1 + ((bC s).length : Int) + _ ≤ _; omega) (by show (0 : Int) + 6 + 130 * ((bC s).length : Int) + _ ≤ _; omega))
  have k := K h2 _ _ _ _ g (by omega)
  have o2 : xpl h2 91 0 = xpl h1 91 0 := S2.pl (by omega) (by decide) 0
  have cod : (cFoundWithout s (scV xs (x5 + 1))).1.1 = 0 ∨ (cFoundWithout s (scV xs (x5 + 1))).1.1 ∈ ([2, 3] : List Int) := by
    rcases cod_foundWithout (s := s) (p := scV xs (x5 + 1)) with y | y | y <;> rw [y] <;> decide
  exact v_W_law_1838 SC F2 ⟨fun _ => ⟨fun z => ⟨fun _ => k, fun y => absurd (o2.trans (o1 (thr_0 z cod))) y⟩, fun _ => k⟩, fun y => absurd e0 y⟩
theorem lc_firstFit {G : XG} {d : Nat} {h : XH} {Q : XV → XH → Prop} {X : Nat → XH → Prop} {n9 : Nat} {xs : Nat → Int32} {nm9 : String} {hq9 : List (Nat × Nat × Nat × Nat)} {s : CS} {F N M : Nat} {x5 : Int} (SC : SCR G n9 xs) (L : LI h s F N M) (t : F + N ≤ 511) (x0 : 0 ≤ x5) (x6 : x5 + 6 ≤ n9) (K : ∀ (h9 : XH) (s9 : CS) (F9 N9 M9 : Nat), LI h9 s9 F9 N9 M9 → F9 + N9 = F + N + 1 → xwp G (m_W_law nm9 hq9) (d + 220) 2018 [xR (-108), xR 0, xR 53, xR 91, xR 92, xI x5, xZ, xZ, xZ] [] h9 Q X) : xwp G (m_W_law nm9 hq9) (d + 220) 1871 [xR (-108), xR 0, xR 53, xR 91, xR 92, xI x5, xZ, xZ, xZ] [] h Q X := by
  have nx := L.1.fx.nx
  have n3 := SC.2.2
  have W : CWF s := L.1.wf
  have U : UQ s := L.2.2.1.1
  have m0 := L.2.2.2.1
  refine v_W_law_1871 SC L.1.fx ⟨⟨by omega, by omega⟩, by omega, by omega, ⟨by omega, by omega⟩, by omega, by omega, ?_⟩
  refine s_W_firstFit (n9 := 0) (s9 := 0) L.1 (L.room (by omega) (by decide) (by decide)) (by decide) (by decide) (fun h1 C1 S1 n1 l1 o1 => ?_)
  have I1 := MIR.clW L.1.fx L.2.1 S1 (Or.inl rfl)
  have r1 := L.rm1 t C1 n1 l1 (by first | decide | omega) (by first | decide | omega)
  have nx1 := C1.fx.nx
  refine v_W_law_1888 SC C1.fx ⟨⟨by omega, by omega⟩, by omega, by omega, ⟨by omega, by omega⟩, by omega, by omega, ?_⟩
  refine s_M_firstFit C1.fx I1 W (MAN.maq (R := (cFirstFit s (scV xs (x5 + 1)) (scV xs (x5 + 2)))) (n9 := 0) (s9 := 0) (fun h2 F2 I2 S2 e0 n2 l2 => ?_) rfl (by decide) (by decide))
  have g := LI.no L C1 n1 l1 F2 I2 (S92 S2) n2 l2 L.2.2.1 (by show mC s ≤ mC s + 60; omega) (BUD.of (by show (0 : Int) + 1 + ((bC s).length : Int) + _ ≤ _; omega) (by show (0 : Int) + 6 + 130 * ((bC s).length : Int) + _ ≤ _; omega))
  have k := K h2 _ _ _ _ g (by omega)
  have o2 : xpl h2 91 0 = xpl h1 91 0 := S2.pl (by omega) (by decide) 0
  have cod : (cFirstFit s (scV xs (x5 + 1)) (scV xs (x5 + 2))).1.1 = 0 ∨ (cFirstFit s (scV xs (x5 + 1)) (scV xs (x5 + 2))).1.1 ∈ ([2, 1, 3] : List Int) := by
    rcases cod_firstFit (s := s) (k := scV xs (x5 + 1)) (f := scV xs (x5 + 2)) with y | y | y | y <;> rw [y] <;> decide
  exact v_W_law_1906 SC F2 ⟨fun _ => ⟨fun z => ⟨fun _ => k, fun y => absurd (o2.trans (o1 (thr_0 z cod))) y⟩, fun _ => k⟩, fun y => absurd e0 y⟩
theorem lc_meanWeight {G : XG} {d : Nat} {h : XH} {Q : XV → XH → Prop} {X : Nat → XH → Prop} {n9 : Nat} {xs : Nat → Int32} {nm9 : String} {hq9 : List (Nat × Nat × Nat × Nat)} {s : CS} {F N M : Nat} {x5 : Int} (SC : SCR G n9 xs) (L : LI h s F N M) (t : F + N ≤ 511) (x0 : 0 ≤ x5) (x6 : x5 + 6 ≤ n9) (K : ∀ (h9 : XH) (s9 : CS) (F9 N9 M9 : Nat), LI h9 s9 F9 N9 M9 → F9 + N9 = F + N + 1 → xwp G (m_W_law nm9 hq9) (d + 220) 2018 [xR (-108), xR 0, xR 53, xR 91, xR 92, xI x5, xZ, xZ, xZ] [] h9 Q X) : xwp G (m_W_law nm9 hq9) (d + 220) 1939 [xR (-108), xR 0, xR 53, xR 91, xR 92, xI x5, xZ, xZ, xZ] [] h Q X := by
  have nx := L.1.fx.nx
  have n3 := SC.2.2
  have W : CWF s := L.1.wf
  have U : UQ s := L.2.2.1.1
  have m0 := L.2.2.2.1
  refine v_W_law_1939 SC L.1.fx ?_
  refine s_W_meanWeight (n9 := 0) (s9 := 0) L.1 (L.room (by omega) (by decide) (by decide)) (by decide) (by decide) (fun h1 C1 S1 n1 l1 o1 => ?_)
  have I1 := MIR.clW L.1.fx L.2.1 S1 (Or.inr rfl)
  have r1 := L.rm1 t C1 n1 l1 (by first | decide | omega) (by first | decide | omega)
  have nx1 := C1.fx.nx
  refine v_W_law_1945 SC C1.fx ?_
  refine s_M_meanWeight C1.fx I1 W (MAN.maq (R := (cMeanWeight s)) (n9 := 0) (s9 := 0) (fun h2 F2 I2 S2 e0 n2 l2 => ?_) rfl (by decide) (by decide))
  have g := LI.no L C1 n1 l1 F2 I2 (S92 S2) n2 l2 L.2.2.1 (by show mC s ≤ mC s + 60; omega) (BUD.of (by show (0 : Int) + 1 + ((bC s).length : Int) + _ ≤ _; omega) (by show (0 : Int) + 6 + 130 * ((bC s).length : Int) + _ ≤ _; omega))
  have k := K h2 _ _ _ _ g (by omega)
  have o2 : xpl h2 92 0 = xpl h1 92 0 := S2.pl (by omega) (by decide) 0
  have cod : (cMeanWeight s).1.1 = 0 ∨ (cMeanWeight s).1.1 ∈ ([2] : List Int) := by
    rcases cod_meanWeight (s := s) with y | y <;> rw [y] <;> decide
  refine v_W_law_1951 SC F2 ⟨fun _ => ⟨fun z => ?_, fun _ => k⟩, fun y => absurd e0 y⟩
  have ev : xpl h2 92 0 = (cMeanWeight s).1.2 := o2.trans (o1 (thr_0 z cod))
  rw [ev]
  exact ⟨fun _ => k, fun y => ⟨fun y2 => absurd y2 y, fun _ => ⟨fun y2 => absurd y2 y, fun _ => k⟩⟩⟩
theorem lc_digest {G : XG} {d : Nat} {h : XH} {Q : XV → XH → Prop} {X : Nat → XH → Prop} {n9 : Nat} {xs : Nat → Int32} {nm9 : String} {hq9 : List (Nat × Nat × Nat × Nat)} {s : CS} {F N M : Nat} {x5 : Int} (SC : SCR G n9 xs) (L : LI h s F N M) (t : F + N ≤ 511) (x0 : 0 ≤ x5) (x6 : x5 + 6 ≤ n9) (K : ∀ (h9 : XH) (s9 : CS) (F9 N9 M9 : Nat), LI h9 s9 F9 N9 M9 → F9 + N9 = F + N + 1 → xwp G (m_W_law nm9 hq9) (d + 220) 2018 [xR (-108), xR 0, xR 53, xR 91, xR 92, xI x5, xZ, xZ, xZ] [] h9 Q X) : xwp G (m_W_law nm9 hq9) (d + 220) 2004 [xR (-108), xR 0, xR 53, xR 91, xR 92, xI x5, xZ, xZ, xZ] [] h Q X := by
  have nx := L.1.fx.nx
  have n3 := SC.2.2
  have W : CWF s := L.1.wf
  have U : UQ s := L.2.2.1.1
  have m0 := L.2.2.2.1
  have so := so_k (T := ((10 * F : Nat) : Int)) (F := F) rfl (by omega)
  refine v_W_law_2004 SC L.1.fx ?_
  have e1 : (cDigest s).1.1 = 0 := rfl
  refine s_B_digest (n9 := 0) (s9 := 0) L.1 (L.room (by omega) (by first | decide | omega) (by first | decide | omega)) (by first | decide | omega) (by first | decide | omega) ⟨fun _ h1 C1 S1 n1 l1 => ?_, fun k e => absurd (e1.symm.trans e) (by omega)⟩
  have n1 : nxP h1 ≤ nxP h + 0 + 1 := by omega
  have l1 : slP h1 ≤ slP h + 0 + 6 := by omega
  have I1 := MIR.clB L.1.fx L.2.1 S1
  have r1 := L.rm1 t C1 n1 l1 (by first | decide | omega) (by first | decide | omega)
  have nx1 := C1.fx.nx
  refine v_W_law_2008 SC C1.fx ?_
  refine s_M_digest C1.fx I1 W U (T := ((10 * F : Nat) : Int)) L.2.2.1.tw (by omega) (by omega) (by omega) (n9 := 300) (s9 := 304 + 4 * ((10 * F : Nat) : Int)) (by omega) (by omega) (fun h2 F2 I2 S2 e0 n2 l2 => ?_)
  have g := LI.no L C1 n1 l1 F2 I2 S2 n2 l2 L.2.2.1 (by show mC s ≤ mC s + 60; omega) (BUD.so (by show (0 : Int) + 1 + ((bC s).length : Int) + _ ≤ _; omega) (by show (0 : Int) + 6 + 130 * ((bC s).length : Int) + _ ≤ _; omega))
  have k := K h2 _ _ _ _ g (by omega)
  exact v_W_law_2012 SC F2 ⟨fun _ => k, fun y => absurd rfl y⟩
theorem law_loop {G : XG} {d : Nat} {Q : XV → XH → Prop} {X : Nat → XH → Prop} {n9 : Nat} {xs : Nat → Int32} {nm9 : String} {hq9 : List (Nat × Nat × Nat × Nat)} (SC : SCR G n9 xs) (hq : ∀ h, xFix h → Q (xI 1) h) : ∀ (m : Nat) (h : XH) (s : CS) (F N M : Nat) (x5 : Int), LI h s F N M → x5 = 6 * ((F : Int) + N) → (n9 : Int) - x5 < 6 * ((m : Int) + 1) → xwp G (m_W_law nm9 hq9) (d + 220) 28 [xR (-108), xR 0, xR 53, xR 91, xR 92, xI x5, xZ, xZ, xZ] [] h Q X := by
  intro m
  induction m with
  | zero =>
    intro h s F N M x5 L e hm
    refine v_W_law_28 SC L.1.fx ⟨fun _ => v_W_law_2024 SC L.1.fx (hq h L.1.fx), fun y => absurd (by omega) y⟩
  | succ m ih =>
    intro h s F N M x5 L e hm
    have n3 := SC.2.2
    refine v_W_law_28 SC L.1.fx ⟨fun _ => v_W_law_2024 SC L.1.fx (hq h L.1.fx), fun y => ?_⟩
    have K : ∀ (h9 : XH) (s9 : CS) (F9 N9 M9 : Nat), LI h9 s9 F9 N9 M9 → F9 + N9 = F + N + 1 → xwp G (m_W_law nm9 hq9) (d + 220) 2018 [xR (-108), xR 0, xR 53, xR 91, xR 92, xI x5, xZ, xZ, xZ] [] h9 Q X := fun h9 s9 F9 N9 M9 L9 e9 =>
      v_W_law_2018 SC L9.1.fx ⟨⟨by omega, by omega⟩, ih h9 s9 F9 N9 M9 (x5 + 6) L9 (by omega) (by omega)⟩
    exact ⟨by omega, by omega, fun _ => K h s F (N + 1) M L.skip (by omega), fun _ => lc_feed SC L (by omega) (by omega) (by omega) K, fun _ => lc_trim SC L (by omega) (by omega) (by omega) K, fun _ => lc_add SC L (by omega) (by omega) (by omega) K, fun _ => lc_takeOut SC L (by omega) (by omega) (by omega) K, fun _ => lc_commit SC L (by omega) (by omega) (by omega) K, fun _ => lc_mergeAll SC L (by omega) (by omega) (by omega) K, fun _ => lc_texts SC L (by omega) (by omega) (by omega) K, fun _ => lc_buffered SC L (by omega) (by omega) (by omega) K, fun _ => lc_segments SC L (by omega) (by omega) (by omega) K, fun _ => lc_merges SC L (by omega) (by omega) (by omega) K, fun _ => lc_textsIn SC L (by omega) (by omega) (by omega) K, fun _ => lc_markedIn SC L (by omega) (by omega) (by omega) K, fun _ => lc_levelOf SC L (by omega) (by omega) (by omega) K, fun _ => lc_wordsIn SC L (by omega) (by omega) (by omega) K, fun _ => lc_keyAt SC L (by omega) (by omega) (by omega) K, fun _ => lc_isMarked SC L (by omega) (by omega) (by omega) K, fun _ => lc_lengthOf SC L (by omega) (by omega) (by omega) K, fun _ => lc_segmentOf SC L (by omega) (by omega) (by omega) K, fun _ => lc_shelfOf SC L (by omega) (by omega) (by omega) K, fun _ => lc_takeWord SC L (by omega) (by omega) (by omega) K, fun _ => lc_wordByte SC L (by omega) (by omega) (by omega) K, fun _ => lc_textsWith SC L (by omega) (by omega) (by omega) K, fun _ => lc_timesIn SC L (by omega) (by omega) (by omega) K, fun _ => lc_rarity SC L (by omega) (by omega) (by omega) K, fun _ => lc_nearest SC L (by omega) (by omega) (by omega) K, fun _ => lc_ask SC L (by omega) (by omega) (by omega) K, fun _ => lc_parts SC L (by omega) (by omega) (by omega) K, fun _ => lc_found SC L (by omega) (by omega) (by omega) K, fun _ => lc_keyFound SC L (by omega) (by omega) (by omega) K, fun _ => lc_weightFound SC L (by omega) (by omega) (by omega) K, fun _ => lc_foundOn SC L (by omega) (by omega) (by omega) K, fun _ => lc_placeOf SC L (by omega) (by omega) (by omega) K, fun _ => lc_partWeight SC L (by omega) (by omega) (by omega) K, fun _ => lc_foundWithout SC L (by omega) (by omega) (by omega) K, fun _ => lc_firstFit SC L (by omega) (by omega) (by omega) K, fun _ => lc_meanWeight SC L (by omega) (by omega) (by omega) K, fun _ => lc_digest SC L (by omega) (by omega) (by omega) K⟩

end
