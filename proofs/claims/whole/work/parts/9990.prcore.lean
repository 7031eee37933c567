/-! ===== prcore ===== -/
section
/-! the model reads a question: a core that is a run or a phrase -/
theorem ino_hi {r : RS} {n : Nat} (I : RDI n r) (O : OPK r) : (quN r = 0 ∧ inoV r = -1) ∨ ∃ (o : Nat) (to : PT), r.2.1.1[o]? = some to ∧ to.1 5 = 3 ∧ to.1 10 = quN r ∧ inoV r = o := by
  obtain ⟨-, -, i3, -⟩ := I
  cases z : r.2.2.1.getLast? with
  | none =>
    refine Or.inl ⟨?_, by unfold inoV; rw [z]⟩
    unfold quN arF
    rw [z]; rfl
  | some m =>
    have hm := List.mem_of_getLast? z
    obtain ⟨t, t1, t2, t3, -⟩ := i3 m hm
    obtain ⟨t', y1, y2⟩ := O m hm
    rw [t1] at y1
    cases y1
    refine Or.inr ⟨m, t, t1, y2, ?_, by unfold inoV; rw [z]⟩
    have e : arF r.2.1 r.2.2.1 = (t.1 2, t.1 3, t.1 10) := by unfold arF; rw [z]; show arT _ = _; rw [t1]; rfl
    unfold quN
    rw [e]
    show t.1 10 = ((t.1 10).toNat : Int)
    omega
theorem core_fin {h0 h h' : XH} {q : Int} {bs : List Int} {RES : Int × RS} {r : RS} {t u : Nat} {st : Int × Int × Int} {t9 : PT} {ph : List Int} (N : RIN h0 h q bs RES r t) (C : PIC h q r.2.1 (r.2.1.1.length + 1)) (Pe : xpl h (q + 1) r.2.1.1.length = inoV r)
    (P' : PX h0 h' q) (T' : TK h' bs u) (K : KP h h' q r.2.1.1.length (xpl h q 10)) (R : RoR h' q r.2.1.1.length t9) (e1 : xpl h' (q + 1) r.2.1.1.length = xpl h (q + 1) r.2.1.1.length) (w : xpl h q 10 ≤ xpl h' q 10) (w2 : xpl h' q 10 ≤ u)
    (I' : RDI u (st, apD r.2.1 (quN r) t9, r.2.2.1, r.2.1.1.length, ph)) (e : RD bs u (st, apD r.2.1 (quN r) t9, r.2.2.1, r.2.1.1.length, ph) = RES) :
    RIN h0 h' q bs RES (st, apD r.2.1 (quN r) t9, r.2.2.1, r.2.1.1.length, ph) u ∧ PIC h' q (apD r.2.1 (quN r) t9) (apD r.2.1 (quN r) t9).1.length ∧ (r.2.1.1.length < (apD r.2.1 (quN r) t9).1.length ∧ STB r (st, apD r.2.1 (quN r) t9, r.2.2.1, r.2.1.1.length, ph)) := by
  obtain ⟨P, T, e25, I, eR, O, w1, w0⟩ := N
  have ln : (apD r.2.1 (quN r) t9).1.length = r.2.1.1.length + 1 := by show (r.2.1.1 ++ [t9]).length = _; rw [List.length_append]; rfl
  refine ⟨⟨P', T', K.2.2.2.trans e25, I', e, fun m hm => ?_, w2, by omega⟩, ?_, by omega, STB.ap rfl⟩
  · obtain ⟨t, t1, t2⟩ := O m hm
    refine ⟨t, ?_, t2⟩
    show (r.2.1.1 ++ [t9])[m]? = some t
    rw [List.getElem?_append_left (List.getElem?_eq_some_iff.mp t1).1]; exact t1
  · have := C.ap K rfl w R I.2.2.2.2.1 e1 (by rw [Pe]; exact ino_hi I O)
    rw [ln]
    exact this
theorem runT_at (bs : List Int) (t : Nat) (r : RS) : (runT bs t r).1 1 = (bcF r).1.2.1 ∧ (runT bs t r).1 2 = fldV r ∧ (runT bs t r).1 5 = 0 ∧ (runT bs t r).1 6 = 1 ∧ (runT bs t r).1 7 = 0 ∧ (runT bs t r).1 8 = stV bs t ∧ (runT bs t r).1 9 = tA bs (t + 1) - tP bs t ∧ (runT bs t r).2 = [wdT bs t] := ⟨rfl, (npT_at r 0 [wdT bs t]).2.1, rfl, rfl, rfl, rfl, rfl, rfl⟩
theorem wvF_cut {ls : List Int} : ∀ k : Nat, k ≤ 12 → ∃ s : Int, 0 ≤ s ∧ wvF ls k = s * 37 ^ (12 - k)
  | 0, _ => ⟨0, Int.le_refl _, by rw [Int.zero_mul]; rfl⟩
  | k + 1, hk => by
    obtain ⟨s, s0, e⟩ := wvF_cut (ls := ls) k (by omega)
    have r := sgn_rng (ls[k]?.getD 0)
    refine ⟨s * 37 + sgn (ls[k]?.getD 0), by omega, ?_⟩
    rw [wvF_succ (by omega), e, show 12 - k = (11 - k) + 1 by omega, show 12 - (k + 1) = 11 - k by omega, Int.pow_succ, Int.add_mul, Int.mul_assoc, Int.mul_comm 37]
theorem stV_ok {bs : List Int} {t : Nat} (k : tK bs t = 300) : StOK (stV bs t) (tA bs (t + 1) - tP bs t) := fun n12 => by
  obtain ⟨⟨a0, a1, a2⟩, ar, ae, -⟩ := run_at k
  have rl := runL_len (bs := bs) (s := tP bs t) (e := tA bs (t + 1)) (by omega)
  obtain ⟨s, s0, e⟩ := wvF_cut (ls := runL bs (tP bs t) (tA bs (t + 1))) (runL bs (tP bs t) (tA bs (t + 1))).length (by omega)
  refine ⟨s, s0, ?_⟩
  have pn := p37_nat (12 - (runL bs (tP bs t) (tA bs (t + 1))).length) (by omega)
  rw [show 12 - (tA bs (t + 1) - tP bs t) = ((12 - (runL bs (tP bs t) (tA bs (t + 1))).length : Nat) : Int) by omega, pn]
  exact e
/-- a part with words in the rows -/
theorem RoR.ofPh {h h' : XH} {q p sg f ins fr : Int} {ws : List Int} {t : PT} (Pe : PeR h q p sg f ins fr) (R : PhR h' q p fr ws) (o : ∀ c, q + 1 ≤ c → c ≤ q + 9 → c ≠ q + 7 → c ≠ q + 8 → xpl h' c p = xpl h c p) (f0 : 0 ≤ fr) (t1 : t.1 1 = sg) (t2 : t.1 2 = f) (t5 : (t.1 5 = 0 ∧ bigF ws ≤ 1) ∨ (t.1 5 = 2 ∧ 2 ≤ bigF ws)) (t6 : t.1 6 = 1) (t7 : t.1 7 = 0) (tw : t.2 = ws) : RoR h' q p t := by
  obtain ⟨⟨a1, a2, a3, a4, a5⟩, b6, b7, b8, b9⟩ := Pe
  obtain ⟨r7, r8, r10, rw'⟩ := R
  have e6 : xpl h' (q + 6) p = fr := (o _ (by omega) (by omega) (by omega) (by omega)).trans b6
  have n1 : t.1 5 ≠ 1 := by omega
  refine ⟨⟨(o _ (by omega) (by omega) (by omega) (by omega)).trans (a2.trans t1.symm), (o _ (by omega) (by omega) (by omega) (by omega)).trans (a3.trans t6.symm), (o _ (by omega) (by omega) (by omega) (by omega)).trans (a4.trans t2.symm), ?_, (o _ (by omega) (by omega) (by omega) (by omega)).trans (b9.trans t7.symm)⟩, fun _ => ?_, fun z => absurd z n1, by rw [e6]; exact f0, ?_, ?_⟩
  · rw [if_neg (by omega), if_neg n1]
    exact (o _ (by omega) (by omega) (by omega) (by omega)).trans a5
  · rw [tw, e6]
    exact ⟨r7, r8, rw'⟩
  · rw [e6, r10]
    unfold neW
    rw [if_neg n1, tw]
    exact Int.le_refl _
  · rw [tw]
    rcases t5 with z | z
    · exact Or.inl z
    · exact Or.inr (Or.inr (Or.inl z))
theorem core_run {G : XG} {d : Nat} {h : XH} {Q : XV → XH → Prop} {X : Nat → XH → Prop} {h0 : XH} {q : Int} {bs : List Int} {RES : Int × RS} {r : RS} {t : Nat} (g : GR h0 q bs) (N : RIN h0 h q bs RES r t) (C : PIC h q r.2.1 (r.2.1.1.length + 1)) (cc : ccb r.1.1 = true) (Pe : PeR h q r.2.1.1.length (bcF r).1.2.1 (fldV r) (inoV r) (xpl h q 10))
    (hf : (bcF r).1.2.2 = 2 → tK bs t = 300 → nmF (runL bs (tP bs t) (tA bs (t + 1))) ≠ 2 → tK bs (t + 1) ≠ 58) (k : tK bs t = 300)
    (hT : ∀ h' r' t', RIN h0 h' q bs RES r' t' → PIC h' q r'.2.1 r'.2.1.1.length → t < t' → r'.2.2.1 = r.2.2.1 → r'.2.2.2.1 = r.2.1.1.length → (r.2.1.1.length < r'.2.1.1.length ∧ STB r r') → 8 ≤ r'.1.1 → r'.1.1 ≤ 10 → ScR bs r' t' → Q (xI 1) h')
    (hD : ∀ h', DOO h0 h' q bs RES → Q (xI 1) h') : xwp G m_M_isCore (d + 9) 167 [xR 53, xI (r.2.1.1.length : Nat)] [xI 1] h Q X := by
  have N0 := N
  obtain ⟨P, T, e25, I, eR, O, w1, w0⟩ := N
  have e24 := T.2.2
  have t4 := T.1
  have t5 := (tK_300 k).2
  have k4 : tK bs t < 400 := by omega
  have pt := I.1.1
  have nx := T.next g P k4 (by omega)
  have Pe0 := Pe
  obtain ⟨⟨a1, a2, a3, a4, a5⟩, b6, b7, b8, b9⟩ := Pe
  refine v_M_isCore_167 P.1 ⟨fun z => absurd z (by decide), fun _ => ?_⟩
  rw [e24, nx]
  refine ⟨⟨by omega, by omega⟩, by omega, by omega, fun q2 => ?_, fun q2 => ?_⟩
  · have t2 : t + 2 ≤ 40 := by
      have := ((@tK_T bs (t + 1)).2.1 (by omega)).2
      omega
    have nT : tT bs (t + 1) = 42 := by rw [((@tK_T bs (t + 1)).2.1 (by omega)).1]; exact q2
    have s1 := tk_run k cc (fun y => by omega)
    have s2 : tkK bs (t + 1) ((8, (bcF r).1.2), apD r.2.1 (quN r) (runT bs t r), r.2.2.1, r.2.1.1.length, r.2.2.2.2) = some ((10, (bcF r).1.2), apD r.2.1 (quN r) (upP (runT bs t r) 5 1), r.2.2.1, r.2.1.1.length, r.2.2.2.2) := by
      unfold tkK
      rw [q2]
      show some ((10, (bcF r).1.2), seD (apD r.2.1 (quN r) (runT bs t r)) r.2.1.1.length 5 1, r.2.2.1, r.2.1.1.length, r.2.2.2.2) = _
      rw [seD_ap]
    have I1 := I.tkK k4 s1
    have I2 := I1.tkK (by omega) s2
    have e2 := (RD_some t4 k4 s1).symm.trans eR
    have e3 := (RD_some (by omega) (by omega) s2).symm.trans e2
    refine s_M_star g P T k q2 t2 (by omega) (by omega) w0 (by omega) rfl (fun h' P' T' S K o => ?_)
    refine v_M_isCore_193 P'.1 ?_
    refine v_M_isCore_201 P'.1 ?_
    obtain ⟨z1, z2, z3, z4⟩ := S
    have u6 : xpl h' (q + 6) r.2.1.1.length = xpl h q 10 := (o _ (by omega) (by omega) (by omega)).trans b6
    obtain ⟨y1, y2, y3, y4, y5, y6, y7, y8⟩ := runT_at bs t r
    have R : RoR h' q r.2.1.1.length (upP (runT bs t r) 5 1) := by
      refine ⟨⟨(o _ (by omega) (by omega) (by omega)).trans a2, (o _ (by omega) (by omega) (by omega)).trans a3, (o _ (by omega) (by omega) (by omega)).trans (a4.trans y2.symm), z1, (o _ (by omega) (by omega) (by omega)).trans b9⟩, fun z => absurd rfl z, fun _ => ?_, by rw [u6]; exact w0, ?_, Or.inr (Or.inl rfl)⟩
      · rw [u6]
        exact ⟨(o _ (by omega) (by omega) (by omega)).trans b7, (o _ (by omega) (by omega) (by omega)).trans b8, z3, z4, stV_ok k⟩
      · rw [u6, z2]
        show xpl h q 10 + 2 ≤ _
        omega
    obtain ⟨f1, f2, f3⟩ := core_fin N0 C a1 P' T' K R (o _ (by omega) (by omega) (by omega)) (by omega) (by omega) I2 e3
    exact hT h' _ _ f1 f2 (by omega) rfl rfl f3 (by show (8 : Int) ≤ 10; decide) (by show (10 : Int) ≤ 10; decide) ⟨fun y => absurd y (by show ¬ (10 : Int) = 8; decide), fun y => absurd y (by show ¬ (10 : Int) = 9; decide)⟩
  · refine s_M_run g P T k (p := r.2.1.1.length) (fr := xpl h q 10) (ws := []) (by omega) (by omega) ⟨b7, b8, by show xpl h q 10 = xpl h q 10 + 0; omega, fun j v hv => by cases hv⟩ w0 (by show xpl h q 10 + 0 ≤ 40; omega) (fun h' P' T' R' K o => ?_)
    refine v_M_isCore_201 P'.1 ?_
    by_cases nf : (bcF r).1.2.2 = 2 ∧ nmF (runL bs (tP bs t) (tA bs (t + 1))) ≠ 2 ∧ tT bs (t + 1) = 58
    · have n58 := hf nf.1 k nf.2.1
      have k41 : tK bs (t + 1) = 401 := by
        unfold tK at n58 ⊢
        rw [if_neg (by omega)] at n58 ⊢
        by_cases z : t + 1 = 40
        · rw [if_pos z]
        · rw [if_neg z, if_neg (by omega), if_neg (by omega)] at n58
          exact absurd nf.2.2 n58
      have e2 := (RD_some t4 k4 (tk_fld k cc nf)).symm.trans eR
      refine hD h' ⟨P', t + 1, T', k41, by rw [← e2]; exact RD_401 k41, ?_, ?_⟩
      · rw [K.2.2.1, C.1]; omega
      · rw [K.2.2.1, C.1]; omega
    · have s1 := tk_run k cc nf
      have I1 := I.tkK k4 s1
      have e2 := (RD_some t4 k4 s1).symm.trans eR
      obtain ⟨y1, y2, y3, y4, y5, y6, y7, y8⟩ := runT_at bs t r
      have bb : bigF ([] ++ [wdT bs t]) ≤ 1 := by
        show (if wdT bs t = 0 then 0 else 1) + 0 ≤ 1
        split <;> omega
      have bl := bgL_len ([] ++ [wdT bs t]) 0
      have R := RoR.ofPh Pe0 R' o w0 y1 y2 (Or.inl ⟨y3, bb⟩) y4 y5 y8
      obtain ⟨f1, f2, f3⟩ := core_fin N0 C a1 P' T' K R (o _ (by omega) (by omega) (by omega) (by omega)) (by rw [R'.2.2.1]; omega) (by rw [R'.2.2.1]; omega) I1 e2
      exact hT h' _ _ f1 f2 (by omega) rfl rfl f3 (by show (8 : Int) ≤ 8; decide) (by show (8 : Int) ≤ 10; decide) ⟨fun _ => q2, fun y => absurd y (by show ¬ (8 : Int) = 9; decide)⟩

end
