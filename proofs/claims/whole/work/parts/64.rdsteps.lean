/-! ===== rdsteps ===== -/
section
theorem RdF.st {h : XH} {a s : Int} {pa : List Int} {r : RS} (RF : RdF h a pa r) (hs : 1 ≤ s → s ≤ 5 → 1 ≤ r.1.1 ∧ r.1.1 ≤ 5) (h4 : s ≠ 4 ∧ s ≠ 5) : RdF (xst h 32 12 s) a pa (stF r s) := by
  obtain ⟨⟨f1, f2⟩, ⟨f4, f5, f6⟩, f7⟩ := RF
  refine ⟨⟨?_, fun y1 y2 => ⟨?_, ?_⟩⟩, ⟨?_, ?_, ?_⟩, fun y => ?_⟩
  · rw [xpl_st, if_pos ⟨rfl, rfl⟩]; rfl
  · rw [xpl_st, if_neg (by omega)]; have y := hs y1 y2; exact (f2 y.1 y.2).1
  · rw [xpl_st, if_neg (by omega)]; have y := hs y1 y2; exact (f2 y.1 y.2).2
  · rw [xpl_st, if_neg (by omega)]; exact f4
  · rw [xpl_st, if_neg (by omega)]; exact f5
  · rw [xpl_st, if_neg (by omega)]; exact f6
  · have y : s = 4 ∨ s = 5 := y
    omega
theorem RdB.mk {h0 h h' : XH} {bs : List Int} {a : Int} {qa pa : List Int} {D : DR} {op : List Nat} (R : RdB h0 h bs a qa pa D op) (F : xFix h') (e : xsm (fun _ => False) h h') : RdB h0 h' bs a qa pa D op := R.f32 F (e.mono (fun _ _ w => w.elim))
theorem RdX.keep {h h' : XH} {r : RS} (R : RdX h r) (e : ∀ k, xpl h' 32 k = xpl h 32 k) : RdX h' r := ⟨(e 13).trans R.1, (e 14).trans R.2⟩
theorem RdF.keep {h h' : XH} {a : Int} {pa : List Int} {r : RS} (RF : RdF h a pa r) (e : ∀ k, xpl h' 32 k = xpl h 32 k) (e3 : ∀ k, xpl h' 33 k = xpl h 33 k) : RdF h' a pa r := by
  obtain ⟨⟨f1, f2⟩, ⟨f4, f5, f6⟩, f7⟩ := RF
  exact ⟨⟨(e 12).trans f1, fun y1 y2 => (f2 y1 y2).keep e⟩, ⟨(e 5).trans f4, (e 6).trans f5, fun y => by rw [e 7]; exact f6 y⟩, fun y => ⟨(e 1).trans (f7 y).1, fun i hi => by rw [e3]; exact (f7 y).2 i hi⟩⟩
/-- a field of the latest part is set -/
theorem RdB.sd {h0 h : XH} {bs : List Int} {a k v : Int} {qa pa : List Int} {r : RS} (B : RdB h0 h bs a qa pa r.2.1 r.2.2.1) (RF : RdF h a pa r) (la : r.2.2.2.1 < r.2.1.1.length) (F9 : xFix (xst h (xpl h 32 7) k v)) (k0 : 5 ≤ k) (k1 : k ≤ 10) (ok : ∀ t, PTok t → PTok (upP t k v)) :
    RdB h0 (xst h (xpl h 32 7) k v) bs a qa pa (sdF r k v).2.1 (sdF r k v).2.2.1 ∧ RdF (xst h (xpl h 32 7) k v) a pa (sdF r k v) ∧ xtg h (xpl h 32 7) = 4 ∧ 93 ≤ xpl h 32 7 ∧ xpl h 32 7 < xnx h := by
  obtain ⟨p, hp⟩ : ∃ p, p = xpl h 32 7 := ⟨_, rfl⟩
  have hpa := RF.2.1.2.2 la
  rw [← hp] at hpa F9 ⊢
  have hpm := B.2.2.1.pm (List.mem_of_getElem? hpa)
  obtain ⟨⟨r1, r2, r3, r0⟩, ⟨s1, s2⟩, t, u⟩ := B
  have hge := u.2.2.1 p (List.mem_of_getElem? hpa)
  have e : xsm (fun c => c = p) h (xst h p k v) := (xsm.refl h).st (by omega) (Or.inl rfl)
  refine ⟨⟨⟨F9, r2.st (by omega) (Or.inr hge), r3.keep (by rw [xpl_st, if_neg (by omega)]) (fun j => by rw [xpl_st, if_neg (by omega)]), r0⟩, ⟨s1.frame r1 e (fun c w y => ?_), by rw [xpl_st, if_neg (by omega)]; exact s2⟩, t.sed r1 hpa k0 k1 (fun t' ht' => ok t' (t.2.2.2 _ _ _ hpa ht').2.1), u.keep (fun q hq => by rw [xpl_st, if_neg (by omega)])⟩, ?_, hpm.2.2, hpm.1, hpm.2.1⟩
  · have y : c = p := y
    rcases w with w | w
    · omega
    · rw [y, hpm.2.2] at w; exact absurd w.1 (by decide)
  · obtain ⟨f1, ⟨f4, f5, f6⟩, f7⟩ := RF.keep (h' := xst h p k v) (fun j => by rw [xpl_st, if_neg (by omega)]) (fun j => by rw [xpl_st, if_neg (by omega)])
    have ln : (sdF r k v).2.1.1.length = r.2.1.1.length := List.length_set
    exact ⟨f1, ⟨f4, by rw [ln]; exact f5, fun y => f6 (by rw [ln] at y; exact y)⟩, f7⟩
/-- the list of open parts is written -/
theorem RdB.op34 {h0 h h' : XH} {bs : List Int} {a : Int} {qa pa : List Int} {D : DR} {op op' : List Nat} (B : RdB h0 h bs a qa pa D op) (F2 : xFix h') (e2 : xsm (ALC h 34) h h') (A2 : ALr h' 34 (35 :: op'.map (fun n => (pa[n]?).getD 0))) :
    RdB h0 h' bs a qa pa D op' ∧ ∀ c, c < 93 → xtg h c ≠ 110 → c ≠ 34 → ∀ k, xpl h' c k = xpl h c k := by
  have F := B.1.1
  have hnx := F.nx
  have low : ∀ c, c < 93 → xtg h c ≠ 110 → c ≠ 34 → ∀ k, xpl h' c k = xpl h c k := fun c c1 c2 c3 k => e2.pl (by omega) (fun w => by
      rcases w with w | w
      · exact c3 w
      · exact c2 w.1) k
  obtain ⟨⟨r1, r2, r3, r0⟩, ⟨s1, s2⟩, t, u⟩ := B
  have eL2 : xsm (LOWC h) h h' := e2.mono (fun c _ w => by
    rcases w with w | w
    · exact Or.inl (Or.inr (Or.inr (Or.inl w)))
    · exact Or.inr w)
  refine ⟨⟨⟨F2, r2.then eL2 (fun c hc w => RDW.low r2 hc w), r3.keep (low 1 (by decide) (by rw [ft_1 F]; decide) (by decide) 3) (low 2 (by decide) (by rw [ft_2 F]; decide) (by decide)), r0⟩, ⟨A2, by rw [low 35 (by decide) (by rw [ft_35 F]; decide) (by decide)]; exact s2⟩, t.low r1 eL2, u.keep (fun q hq => ?_)⟩, low⟩
  have := t.qm hq
  exact eL2.pl this.1.2.1 (fun w => by have := w.hi (by omega); rw [(t.qm hq).1.2.2] at this; cases this) 0
/-- what a takes-method promises -/
def TKP (Q : XV → XH → Prop) (h0 h : XH) (bs : List Int) (a : Int) (n : Nat) (res : Option RS) : Prop :=
  (res = none → Q (xI 0) h) ∧ ∀ r' h' qa' pa', res = some r' → RdB h0 h' bs a qa' pa' r'.2.1 r'.2.2.1 → RdF h' a pa' r' → xnx h' ≤ xnx h + 8 → xsl h' ≤ xsl h + 4 * n + 70 → xpl h' 32 9 = xpl h 32 9 → xpl h' 32 10 = xpl h 32 10 → (xpl h 32 8 ≤ xpl h' 32 8 ∧ xpl h' 32 8 ≤ bs.length ∧ sb bs (xpl h' 32 8) = sb bs (xpl h 32 8)) → Q (xI 1) h'
theorem s_QR_takesSign {G : XG} {d : Nat} {h : XH} {Q : XV → XH → Prop} {X : Nat → XH → Prop} {h0 : XH} {bs qa pa : List Int} {a : Int} {r : RS} {n : Nat} (B : RdB h0 h bs a qa pa r.2.1 r.2.2.1) (RF : RdF h a pa r) (h8 : xpl h 32 8 ≤ bs.length) (hq : TKP Q h0 h bs a n (tkS r (xpl h 32 10))) : xwp G m_QuestionReader_takesSign (d + 3) 0 [xR 32] [] h Q X := by
  have F := B.1.1
  obtain ⟨⟨f1, f2⟩, ⟨f4, f5, f6⟩, f7⟩ := RF
  unfold tkS at hq
  refine v_QuestionReader_takesSign_0 F ?_
  refine ⟨fun q1 => ?_, fun q1 => ?_⟩
  · intro F9
    rw [f1] at q1
    rw [if_pos q1] at hq
    have S : xsm (fun c => c = 32 ∨ c = 33) h (xst (xst (xst h 32 13 (xpl h 32 10)) 32 14 2) 32 12 1) := ((x32 (by decide)).trans (x32 (by decide))).trans (x32 (by decide))
    refine hq.2 _ _ qa pa rfl (B.f32 F9 S) ⟨⟨?_, fun _ _ => ⟨?_, ?_⟩⟩, ⟨?_, ?_, ?_⟩, fun y => absurd y (by show ¬ ((1 : Int) = 4 ∨ (1 : Int) = 5); decide)⟩ (by show xnx h ≤ _; omega) (by show xsl h ≤ _; omega) ?_ ?_ ?_
    · rw [xpl_st, if_pos ⟨rfl, rfl⟩]; rfl
    · rw [xpl_st, if_neg (by omega), xpl_st, if_neg (by omega), xpl_st, if_pos ⟨rfl, rfl⟩]; rfl
    · rw [xpl_st, if_neg (by omega), xpl_st, if_pos ⟨rfl, rfl⟩]; rfl
    · rw [xpl_st, if_neg (by omega), xpl_st, if_neg (by omega), xpl_st, if_neg (by omega)]; exact f4
    · rw [xpl_st, if_neg (by omega), xpl_st, if_neg (by omega), xpl_st, if_neg (by omega)]; exact f5
    · rw [xpl_st, if_neg (by omega), xpl_st, if_neg (by omega), xpl_st, if_neg (by omega)]; exact f6
    · rw [xpl_st, if_neg (by omega), xpl_st, if_neg (by omega), xpl_st, if_neg (by omega)]
    · rw [xpl_st, if_neg (by omega), xpl_st, if_neg (by omega), xpl_st, if_neg (by omega)]
    · rw [xpl_st, if_neg (by omega), xpl_st, if_neg (by omega), xpl_st, if_neg (by omega)]; exact ⟨Int.le_refl _, h8, rfl⟩
  · rw [f1] at q1
    rw [if_neg q1] at hq
    exact hq.1 rfl
/-- a step that sets the state alone -/
theorem TKP.st {Q : XV → XH → Prop} {h0 h : XH} {bs qa pa : List Int} {a s : Int} {n : Nat} {r : RS} (B : RdB h0 h bs a qa pa r.2.1 r.2.2.1) (RF : RdF h a pa r) (h8 : xpl h 32 8 ≤ bs.length) (hs : 1 ≤ s → s ≤ 5 → 1 ≤ r.1.1 ∧ r.1.1 ≤ 5) (h4 : s ≠ 4 ∧ s ≠ 5) (F9 : xFix (xst h 32 12 s)) (hq : TKP Q h0 h bs a n (some (stF r s))) : Q (xI 1) (xst h 32 12 s) := by
  refine hq.2 _ _ qa pa rfl (B.f32 F9 (x32 (by decide))) (RF.st hs h4) (by show xnx h ≤ _; omega) (by show xsl h ≤ _; omega) ?_ ?_ ?_
  · rw [xpl_st, if_neg (by omega)]
  · rw [xpl_st, if_neg (by omega)]
  · rw [xpl_st, if_neg (by omega)]; exact ⟨Int.le_refl _, h8, rfl⟩
theorem s_QR_moves {G : XG} {d : Nat} {h : XH} {Q : XV → XH → Prop} {X : Nat → XH → Prop} {h0 : XH} {bs qa pa : List Int} {a b s : Int} {r : RS} {n : Nat} (B : RdB h0 h bs a qa pa r.2.1 r.2.2.1) (RF : RdF h a pa r) (h8 : xpl h 32 8 ≤ bs.length) (hb : b = 0 ∨ b = 1) (hs : 1 ≤ s → s ≤ 5 → b = 1 → 1 ≤ r.1.1 ∧ r.1.1 ≤ 5) (h4 : s ≠ 4 ∧ s ≠ 5) (hq : TKP Q h0 h bs a n (if b = 1 then some (stF r s) else none)) : xwp G m_QuestionReader_moves (d + 1) 0 [xR 32, xI b, xI s] [] h Q X := by
  have F := B.1.1
  refine v_QuestionReader_moves_0 F ?_
  refine ⟨fun q1 => ?_, fun q1 => ?_⟩
  · rw [if_neg (by omega)] at hq
    rw [q1]; exact hq.1 rfl
  · refine ⟨?_, ?_⟩
    · omega
    · intro F9
      have e : b = 1 := by omega
      rw [if_pos e] at hq
      rw [e]; exact TKP.st B RF h8 (fun y1 y2 => hs y1 y2 e) h4 F9 hq
theorem s_QR_takesStar {G : XG} {d : Nat} {h : XH} {Q : XV → XH → Prop} {X : Nat → XH → Prop} {h0 : XH} {bs qa pa : List Int} {a : Int} {r : RS} {n m : Nat} (B : RdB h0 h bs a qa pa r.2.1 r.2.2.1) (RF : RdF h a pa r) (I : RDI m r) (h8 : xpl h 32 8 ≤ bs.length) (hq : TKP Q h0 h bs a n (if r.1.1 = 8 then some (stF (sdF r 5 1) 10) else none)) : xwp G m_QuestionReader_takesStar (d + 1) 0 [xR 32] [] h Q X := by
  have F := B.1.1
  have f1 := RF.1.1
  have key : r.1.1 = 8 → ∀ F1 : xFix (xst h (xpl h 32 7) 5 1), _ := fun y F1 => B.sd RF (I.2.1.2.2.2 (by omega)) F1 (by decide) (by decide) (fun t ht => ⟨ht.1, ht.2.1, ht.2.2.1, ⟨by show (0 : Int) ≤ 1; decide, by show (1 : Int) ≤ 3; decide⟩, ht.2.2.2.2⟩)
  have hp : r.1.1 = 8 → xtg h (xpl h 32 7) = 4 ∧ 93 ≤ xpl h 32 7 := fun y => by
    have := B.2.2.1.pm (List.mem_of_getElem? (RF.2.1.2.2 (I.2.1.2.2.2 (by omega))))
    exact ⟨this.2.2, this.1⟩
  refine v_QuestionReader_takesStar_0 F ?_
  refine ⟨fun q1 => ?_, fun q1 => ?_⟩
  · refine ⟨?_, ?_⟩
    · have := hp (by omega); first | exact this.1 | omega
    · refine ⟨?_, ?_⟩
      · have := hp (by omega); first | exact this.1 | omega
      · intro F9
        rw [f1] at q1
        rw [if_pos q1] at hq
        have hp1 := hp q1
        have F1 : xFix (xst h (xpl h 32 7) 5 1) := F.stD hp1.2
        obtain ⟨B1, RF1, -, -, -⟩ := key q1 F1
        have e9 : ∀ j, xpl (xst h (xpl h 32 7) 5 1) 32 j = xpl h 32 j := fun j => by rw [xpl_st, if_neg (by omega)]
        refine hq.2 _ _ qa pa rfl (B1.f32 F9 (x32 (by decide))) (RF1.st (fun _ y => absurd y (by decide)) (by decide)) (by show xnx h ≤ _; omega) (by show xsl h ≤ _; omega) ?_ ?_ ?_
        · rw [xpl_st, if_neg (by omega), e9]
        · rw [xpl_st, if_neg (by omega), e9]
        · rw [xpl_st, if_neg (by omega), e9]; exact ⟨Int.le_refl _, h8, rfl⟩
  · rw [f1] at q1
    rw [if_neg q1] at hq
    exact hq.1 rfl
theorem s_QR_takesPhraseRun {G : XG} {d : Nat} {h : XH} {Q : XV → XH → Prop} {X : Nat → XH → Prop} {h0 : XH} {bs qa pa : List Int} {a : Int} {r : RS} {n m : Nat} (B : RdB h0 h bs a qa pa r.2.1 r.2.2.1) (RF : RdF h a pa r) (I : RDI m r) (hm : m < 40) (h45 : r.1.1 = 4 ∨ r.1.1 = 5) (h8 : xpl h 32 8 ≤ bs.length) (hq : TKP Q h0 h bs a n (some (stF (phF r (if r.2.2.2.2.length < 40 then r.2.2.2.2 ++ [xpl h 32 11] else r.2.2.2.2)) 5))) : xwp G m_QuestionReader_takesPhraseRun (d + 1) 0 [xR 32] [] h Q X := by
  have F := B.1.1
  have RF0 := RF
  obtain ⟨⟨f1, f23⟩, ⟨f4, f5, f6⟩, f78⟩ := RF
  obtain ⟨f2, f3⟩ := f23 (by omega) (by omega)
  obtain ⟨f7, f8⟩ := f78 h45
  have hl := I.1.2.2.2.2.1
  refine v_QuestionReader_takesPhraseRun_0 F ?_
  refine ⟨fun q1 => ?_, fun q1 => ?_⟩
  · intro F9
    omega
  · refine ⟨?_, ?_⟩
    · omega
    · intro F9
      rw [if_pos (by omega)] at hq
      rw [f7] at F9 ⊢
      have S : xsm (fun c => c = 32 ∨ c = 33) h (xst (xst (xst h 33 r.2.2.2.2.length (xpl h 32 11)) 32 1 (r.2.2.2.2.length + 1)) 32 12 5) := (((xsm.refl h).st (by omega) (Or.inl (Or.inr rfl))).trans (x32 (by decide))).trans (x32 (by decide))
      have e32 : ∀ j, j ≠ 1 → j ≠ 12 → xpl (xst (xst (xst h 33 r.2.2.2.2.length (xpl h 32 11)) 32 1 (r.2.2.2.2.length + 1)) 32 12 5) 32 j = xpl h 32 j := fun j j1 j2 => by rw [xpl_st, if_neg (by omega), xpl_st, if_neg (by omega), xpl_st, if_neg (by omega)]
      refine hq.2 _ _ qa pa rfl (B.f32 F9 S) ⟨⟨?_, fun _ _ => ⟨?_, ?_⟩⟩, ⟨?_, ?_, ?_⟩, fun _ => ⟨?_, fun i hi => ?_⟩⟩ (by show xnx h ≤ _; omega) (by show xsl h ≤ _; omega) ?_ ?_ ?_
      · rw [xpl_st, if_pos ⟨rfl, rfl⟩]; rfl
      · rw [e32 13 (by decide) (by decide)]; exact f2
      · rw [e32 14 (by decide) (by decide)]; exact f3
      · rw [e32 5 (by decide) (by decide)]; exact f4
      · rw [e32 6 (by decide) (by decide)]; exact f5
      · rw [e32 7 (by decide) (by decide)]; exact f6
      · rw [xpl_st, if_neg (by omega), xpl_st, if_pos ⟨rfl, rfl⟩]
        show _ = ((r.2.2.2.2 ++ [xpl h 32 11]).length : Int)
        rw [List.length_append]; rfl
      · have hi : i < (r.2.2.2.2 ++ [xpl h 32 11]).length := hi
        show (r.2.2.2.2 ++ [xpl h 32 11])[i]? = _
        rw [List.length_append] at hi
        have hi : i < r.2.2.2.2.length + 1 := hi
        rw [xpl_st, if_neg (by omega), xpl_st, if_neg (by omega), xpl_st]
        by_cases z : i = r.2.2.2.2.length
        · rw [if_pos ⟨rfl, by omega⟩, z, List.getElem?_append_right (Nat.le_refl _), Nat.sub_self]; rfl
        · rw [if_neg (fun y => z (by omega)), List.getElem?_append_left (by omega)]; exact f8 i (by omega)
      · exact e32 9 (by decide) (by decide)
      · exact e32 10 (by decide) (by decide)
      · rw [e32 8 (by decide) (by decide)]; exact ⟨Int.le_refl _, h8, rfl⟩
theorem s_QR_takesClosing {G : XG} {d : Nat} {h : XH} {Q : XV → XH → Prop} {X : Nat → XH → Prop} {h0 : XH} {bs qa pa : List Int} {a : Int} {r : RS} {n m : Nat} (B : RdB h0 h bs a qa pa r.2.1 r.2.2.1) (RF : RdF h a pa r) (I : RDI m r) (h8 : xpl h 32 8 ≤ bs.length) (hq : TKP Q h0 h bs a n (tkC r)) : xwp G m_QuestionReader_takesClosing (d + 4) 0 [xR 32] [] h Q X := by
  have F := B.1.1
  have hnx := F.nx
  have RF0 := RF
  have f1 := RF.1.1
  have A := B.2.1.1
  have hsz := A.sz
  rw [List.length_cons, List.length_map] at hsz
  unfold tkC at hq
  refine v_QuestionReader_takesClosing_0 F ?_
  refine ⟨fun q1 => ?_, fun q1 => ?_⟩
  · refine ⟨?_, ?_⟩
    · exact A.ok
    · refine ⟨fun q2 => ?_, fun q2 => ?_⟩
      · have q1 := of_decide_eq_true q1
        rw [f1] at q1
        rw [if_pos q1] at hq
        have hne : r.2.2.1 ≠ [] := fun y => by rw [y] at hsz; have hsz : als h 34 = ((0 + 1 : Nat) : Int) := hsz; omega
        obtain ⟨l, x, hl⟩ : ∃ l x, r.2.2.1 = l ++ [x] := ⟨_, _, (List.dropLast_concat_getLast hne).symm⟩
        rw [hl, List.getLast?_append, List.getLast?_singleton] at hq
        have hq : TKP Q h0 h bs a n (some (stF (r.1, r.2.1, (l ++ [x]).dropLast, x, r.2.2.2.2) 10)) := hq
        rw [List.dropLast_concat] at hq
        obtain ⟨t, t1, -⟩ := I.2.2.1 x (by rw [hl]; exact List.mem_append.mpr (Or.inr (List.mem_singleton.mpr rfl)))
        have xl := (List.getElem?_eq_some_iff.mp t1).1
        have hpx : pa[x]? = some (pa[x]'(by have := B.2.2.1.2.1.1; omega)) := List.getElem?_eq_getElem _
        have hlen : r.2.2.1.length = l.length + 1 := by rw [hl, List.length_append]; rfl
        have i0 : als h 34 - 1 = ((l.length + 1 : Nat) : Int) := by omega
        have hg := A.at (i := l.length + 1) (by rw [List.length_cons, List.length_map]; omega)
        have hg2 : (35 :: r.2.2.1.map (fun n => (pa[n]?).getD 0))[l.length + 1]? = some ((pa[x]?).getD 0) := by
          rw [hl, List.map_append]
          show (35 :: (l.map (fun n => (pa[n]?).getD 0) ++ [(pa[x]?).getD 0]))[l.length + 1]? = _
          rw [List.getElem?_cons_succ, List.getElem?_append_right (by rw [List.length_map]; omega), List.length_map, Nat.sub_self]; rfl
        rw [hg2, hpx] at hg
        have hg : pa[x]'(by have := B.2.2.1.2.1.1; omega) = alg h 34 ((l.length + 1 : Nat) : Int) := Option.some.inj hg
        rw [hg, ← i0] at hpx
        have hpm := B.2.2.1.pm (List.mem_of_getElem? hpx)
        refine s_AL_remove F A (by omega) (by rw [List.length_cons, List.length_map]; omega) (fun h2 F2 e2 n2 l2 A2 => ?_)
        have eL : (35 :: r.2.2.1.map (fun n => (pa[n]?).getD 0)).eraseIdx (als h 34 - 1).toNat = 35 :: l.map (fun n => (pa[n]?).getD 0) := by
          rw [show (als h 34 - 1).toNat = l.length + 1 by omega, hl, List.map_append, List.eraseIdx_cons_succ]
          congr 1
          rw [List.eraseIdx_append_of_length_le (by rw [List.length_map]; omega), List.length_map, Nat.sub_self]
          exact List.append_nil _
        rw [eL] at A2
        have low : ∀ c, c < 93 → xtg h c ≠ 110 → c ≠ 34 → ∀ k, xpl h2 c k = xpl h c k := fun c c1 c2 c3 k => e2.pl (by omega) (fun w => by
          rcases w with w | w
          · exact c3 w
          · exact c2 w.1) k
        have e32 : ∀ k, xpl h2 32 k = xpl h 32 k := low 32 (by decide) (by rw [ft_32 F]; decide) (by decide)
        have B2 : RdB h0 h2 bs a qa pa r.2.1 l := by
          obtain ⟨⟨r1, r2, r3, r0⟩, ⟨s1, s2⟩, t, u⟩ := B
          have eL2 : xsm (LOWC h) h h2 := e2.mono (fun c _ w => by
            rcases w with w | w
            · exact Or.inl (Or.inr (Or.inr (Or.inl w)))
            · exact Or.inr w)
          refine ⟨⟨F2, r2.then eL2 (fun c hc w => RDW.low r2 hc w), r3.keep (low 1 (by decide) (by rw [ft_1 F]; decide) (by decide) 3) (low 2 (by decide) (by rw [ft_2 F]; decide) (by decide)), r0⟩, ⟨A2, by rw [low 35 (by decide) (by rw [ft_35 F]; decide) (by decide)]; exact s2⟩, t.low r1 eL2, u.keep (fun q hq => ?_)⟩
          have := t.qm hq
          exact eL2.pl this.1.2.1 (fun w => by have := w.hi (by omega); rw [(t.qm hq).1.2.2] at this; cases this) 0
        obtain ⟨P, hP⟩ : ∃ P, P = alg h 34 (als h 34 - 1) := ⟨_, rfl⟩
        rw [← hP] at hpx hpm ⊢
        refine v_QuestionReader_takesClosing_37 F2 ?_
        refine ⟨?_, ?_⟩
        · first | (rw [e2.tg hpm.2.1]; exact hpm.2.2) | omega
        · intro F9
          have RF2 := RF0.keep e32 (low 33 (by decide) (by rw [ft_33 F]; decide) (by decide))
          obtain ⟨⟨g1, -⟩, ⟨g4, g5, g6⟩, -⟩ := RF2
          refine hq.2 _ _ qa pa rfl (B2.f32 F9 ((x32 (by decide)).trans (x32 (by decide)))) ⟨⟨?_, fun _ y => absurd y (by show ¬ (10 : Int) ≤ 5; decide)⟩, ⟨?_, ?_, fun _ => ?_⟩, fun y => absurd y (by show ¬ ((10 : Int) = 4 ∨ (10 : Int) = 5); decide)⟩ (by show xnx h2 ≤ _; omega) (by show xsl h2 ≤ _; omega) ?_ ?_ ?_
          · rw [xpl_st, if_pos ⟨rfl, rfl⟩]; rfl
          · rw [xpl_st, if_neg (by omega), xpl_st, if_neg (by omega)]; exact g4
          · rw [xpl_st, if_neg (by omega), xpl_st, if_neg (by omega)]; exact g5
          · rw [xpl_st, if_neg (by omega), xpl_st, if_pos ⟨rfl, rfl⟩]; exact hpx
          · rw [xpl_st, if_neg (by omega), xpl_st, if_neg (by omega)]; exact e32 9
          · rw [xpl_st, if_neg (by omega), xpl_st, if_neg (by omega)]; exact e32 10
          · rw [xpl_st, if_neg (by omega), xpl_st, if_neg (by omega), e32]; exact ⟨Int.le_refl _, h8, rfl⟩
      · have q1 := of_decide_eq_true q1
        rw [f1] at q1
        rw [if_pos q1] at hq
        have h9 : r.2.2.1 = [] := List.length_eq_zero_iff.mp (by omega)
        rw [h9] at hq
        exact hq.1 rfl
  · rw [if_neg (fun y => q1 (decide_eq_true (by omega)))] at hq
    exact hq.1 rfl

end
