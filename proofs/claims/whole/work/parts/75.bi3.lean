/-! ===== bi3 ===== -/
section
/-! the tape's and the word's calls -/
theorem CLW.of {h h' : XH} {C : Int → Prop} (e : xsm C h h') (hC : ∀ c, C c → COW h c) : xsm (CLW h) h h' := e.mono (fun c _ w => (hC c w).nm)
theorem CIR.tape {h h' : XH} {s : CS} {bs : List Int} (R : CIR h s) (F' : xFix h') (e : xsm TPC h h') (T : TapeR h' bs) : CIR h' ((bs, s.1.2), s.2) ∧ xsm (CLW h) h h' ∧ vlen h' = vlen h := by
  obtain ⟨⟨F, M⟩, -, ⟨bp, fp, S⟩, ⟨V, VR⟩, w, ⟨a, qa, pa, QR⟩, ⟨es, A, hes⟩, z10, W⟩ := R
  have hnx := F.nx
  have hT : ∀ c, TPC c → 1 ≤ c ∧ c ≤ 4 := fun c hc => by unfold TPC at hc; omega
  have nt : ∀ c, TPC c → xtg h c ≠ 110 ∧ xtg h c ≠ 9 ∧ xtg h c ≠ 13 := fun c hc => by
    have := hT c hc
    have := fxT F (c := c) (by omega) (by omega)
    unfold TPC at hc
    refine ⟨this.1, fun y => by have := this.2.1 y; omega, ?_⟩
    rcases hc with z | z | z | z <;> rw [z]
    · rw [ft_1 F]; decide
    · rw [ft_2 F]; decide
    · rw [ft_3 F]; decide
    · rw [ft_4 F]; decide
  have lo : ∀ c k, 0 ≤ c → c < 93 → ¬ TPC c → xpl h' c k = xpl h c k := fun c k _ c1 c2 => e.pl (by omega) c2 k
  have nl : ∀ a, a = 6 ∨ a = 7 ∨ a = 34 → ∀ c, ALC h a c → ¬ TPC c := fun a ha c v y => by
    have := hT c y
    rcases v with v | v
    · omega
    · exact (nt c y).1 v.1
  obtain ⟨VR', vl⟩ := VR.frame e (fun c v y => by
    have := hT c y
    have := VOW.fx M v
    omega) F
  refine ⟨⟨⟨F', M.frame F e⟩, T, ⟨bp, fp, S.frame F e (fun c v y => ?_)⟩, ⟨V, VR'⟩, (lo 0 5 (by decide) (by decide) (by unfold TPC; omega)).trans w, ⟨a, qa, pa, QR.frame F e (by unfold TPC; omega) (fun c c1 _ y => by have := hT c y; omega) (fun c c1 _ y => by have := hT c y; omega) (fun c v y => ?_)⟩, ⟨es, A.frame F e (nl 34 (by decide)), hes⟩, (lo 35 10 (by decide) (by decide) (by unfold TPC; omega)).trans z10, W⟩, CLW.of e (fun c hc => Or.inl (by have := hT c hc; omega)), vl⟩
  · have := hT c y
    rcases v with v | v | v | v | v | v
    · omega
    · omega
    · exact nl 6 (by decide) c v y
    · exact nl 7 (by decide) c v y
    · exact (nt c y).2.1 v
    · omega
  · have := hT c y
    rcases v with v | v | v
    · omega
    · exact (nt c y).1 v.1
    · omega
def cFeed (s : CS) (a b c d e : Int) : (Int × Int) × CS := if (tC s).length + 20 ≤ 400 then ((0, (tC s).length + 20), ((tC s ++ by4 a ++ by4 b ++ by4 c ++ by4 d ++ by4 e, s.1.2), s.2)) else ((2, 0), s)
theorem s_B_feed {G : XG} {d : Nat} {h : XH} {Q : XV → XH → Prop} {X : Nat → XH → Prop} {s : CS} {a b c i j n9 s9 : Int} (R : CIR h s) (M : Room h n9 s9) (hn : 0 ≤ n9) (hs : 0 ≤ s9) (q : CAN Q X xI h (cFeed s a b c i j) n9 s9) : xwp G m_B_feed (d + 7) 0 [xR 0, xI a, xI b, xI c, xI i, xI j] [] h Q X := by
  have hr := R.room M
  have T := R.2.1
  have ht := T.1
  have ht4 := T.2.1
  unfold cFeed at q
  have l4 : ∀ x, (by4 x).length = 4 := fun _ => rfl
  refine v_B_feed_0 R.fx ?_
  refine ⟨?_, ?_⟩
  · first | omega | exact ⟨by omega, by omega⟩
  · refine ⟨fun q1 => ?_, fun q1 => ?_⟩
    · rw [if_pos (by omega)] at q
      refine s_Tape_append R.fx T (by omega) (fun h1 F1 S1 n1 l1 T1 => ?_)
      refine v_B_feed_32 F1 ?_
      refine s_Tape_append F1 T1 (by rw [List.length_append, l4]; omega) (fun h2 F2 S2 n2 l2 T2 => ?_)
      refine v_B_feed_40 F2 ?_
      refine s_Tape_append F2 T2 (by simp only [List.length_append, l4]; omega) (fun h3 F3 S3 n3 l3 T3 => ?_)
      refine v_B_feed_48 F3 ?_
      refine s_Tape_append F3 T3 (by simp only [List.length_append, l4]; omega) (fun h4 F4 S4 n4 l4' T4 => ?_)
      refine v_B_feed_57 F4 ?_
      refine s_Tape_append F4 T4 (by simp only [List.length_append, l4]; omega) (fun h5 F5 S5 n5 l5 T5 => ?_)
      refine v_B_feed_66 F5 ?_
      have e5 := T5.1
      rw [e5]
      have hl : ((tC s ++ by4 a ++ by4 b ++ by4 c ++ by4 i ++ by4 j).length : Int) = (tC s).length + 20 := by simp only [List.length_append, l4]; omega
      rw [hl]
      obtain ⟨R5, C5, v5⟩ := R.tape F5 ((((S1.trans S2).trans S3).trans S4).trans S5) T5
      refine q.1 rfl h5 R5 C5 ?_ ?_
      · unfold nxP; rw [v5]; omega
      · unfold slP; rw [v5]; omega
    · refine ⟨?_, ?_⟩
      · first | omega | exact ⟨by omega, by omega⟩
      · refine ⟨?_, ?_⟩
        · first | omega | exact ⟨by omega, by omega⟩
        · intro F9
          rw [if_neg (by omega)] at q
          exact CAN.thr (k := 1) q R hn hs F9
def cTrim (s : CS) (n : Int) : (Int × Int) × CS := if 0 ≤ n ∧ n ≤ (tC s).length then ((0, n), (((tC s).take n.toNat, s.1.2), s.2)) else ((1, 0), s)
theorem TapeR.take {h : XH} {bs : List Int} (T : TapeR h bs) {n : Int} (h0 : 0 ≤ n) (h1 : n ≤ bs.length) : TapeR (xst h 1 3 n) (bs.take n.toNat) := by
  obtain ⟨t1, t2, t3, t4⟩ := T
  have hl : (bs.take n.toNat).length = n.toNat := by rw [List.length_take]; omega
  refine ⟨by rw [xpl_hit, hl]; omega, by omega, fun i hi => ?_, fun b hb => t4 b (List.mem_of_mem_take hb)⟩
  rw [xpl_oa (by decide), List.getElem?_take_of_lt (by omega)]
  exact t3 i (by omega)
theorem s_B_trim {G : XG} {d : Nat} {h : XH} {Q : XV → XH → Prop} {X : Nat → XH → Prop} {s : CS} {x n9 s9 : Int} (R : CIR h s) (M : Room h n9 s9) (hn : 0 ≤ n9) (hs : 0 ≤ s9) (q : CAN Q X xI h (cTrim s x) n9 s9) : xwp G m_B_trim (d + 7) 0 [xR 0, xI x] [] h Q X := by
  have hr := R.room M
  have T := R.2.1
  have ht := T.1
  unfold cTrim at q
  refine v_B_trim_0 R.fx ?_
  refine ⟨fun q1 => ?_, fun q1 => ?_⟩
  · refine ⟨?_, ?_⟩
    · omega
    · refine ⟨?_, ?_⟩
      · omega
      · intro F9
        rw [if_neg (by omega)] at q
        exact CAN.thr (k := 0) q R hn hs F9
  · refine ⟨fun q2 => ?_, fun q2 => ?_⟩
    · intro F9
      rw [if_pos ⟨by omega, by omega⟩] at q
      obtain ⟨R5, C5, v5⟩ := R.tape F9 ((xsm.refl h).st (by decide) (Or.inl (Or.inl rfl))) (T.take (n := x) (by omega) (by omega))
      refine q.1 rfl _ R5 C5 ?_ ?_
      · unfold nxP; rw [v5]; show xnx h - _ ≤ _; omega
      · unfold slP; rw [v5]; show xsl h - _ ≤ _; omega
    · refine ⟨?_, ?_⟩
      · omega
      · refine ⟨?_, ?_⟩
        · omega
        · intro F9
          rw [if_neg (by omega)] at q
          exact CAN.thr (k := 0) q R hn hs F9
/-- the word of the tape's first run -/
def twd (bs : List Int) : Int := if rs bs 0 bs.length < re bs (rs bs 0 bs.length) bs.length then rwL (runL bs (rs bs 0 bs.length) (re bs (rs bs 0 bs.length) bs.length)) else 0
theorem twd_rng (bs : List Int) : 0 ≤ twd bs ∧ twd bs < 6582952005840035281 := by
  unfold twd
  split
  · rename_i z
    have := rwL_run z (rs_sgn (by omega) (re_gt z))
    exact ⟨by omega, this.2⟩
  · exact ⟨by decide, by decide⟩
def cTakeWord (s : CS) : (Int × Int) × CS := ((0, wsz (twd (tC s))), (([], s.1.2), twd (tC s), s.2.2))
/-- the word is written -/
theorem CIR.word {h : XH} {s : CS} {w : Int} (R : CIR h s) (F' : xFix (xst h 0 5 w)) (hw : 0 ≤ w ∧ w < 6582952005840035281) : CIR (xst h 0 5 w) (s.1, w, s.2.2) ∧ xsm (CLW h) h (xst h 0 5 w) ∧ vlen (xst h 0 5 w) = vlen h := by
  have e : xsm (fun c => c = 0) h (xst h 0 5 w) := (xsm.refl h).st (by decide) (Or.inl rfl)
  obtain ⟨⟨F, M⟩, T, ⟨bp, fp, S⟩, ⟨V, VR⟩, -, ⟨a, qa, pa, QR⟩, ⟨es, A, hes⟩, z10, W⟩ := R
  have hnx := F.nx
  have lo : ∀ c k, c ≠ 0 → xpl (xst h 0 5 w) c k = xpl h c k := fun c k c1 => by rw [xpl_oa c1]
  have t0 : xtg h 0 = 0 := ft_0 F
  obtain ⟨VR', vl⟩ := VR.frame e (fun c v y => by
    have y : c = 0 := y
    have := VOW.fx M v
    omega) F
  refine ⟨⟨⟨F', M.frame F e⟩, T.keep (lo 1 3 (by decide)) (fun k => lo 2 k (by decide)), ⟨bp, fp, S.frame F e (fun c v y => ?_)⟩, ⟨V, VR'⟩, xpl_hit _ _ _ _, ⟨a, qa, pa, ?_⟩, ⟨es, A.frame F e (fun c v y => ?_), hes⟩, (lo 35 10 (by decide)).trans z10, W.1, W.2.1, W.2.2.1, hw, W.2.2.2.2⟩, CLW.of e (fun c hc => Or.inl (by have hc : c = 0 := hc; omega)), vl⟩
  · have y : c = 0 := y
    rw [y] at v
    unfold STF ALC at v
    rw [t0] at v
    omega
  · obtain ⟨r1, r2, r3, r4⟩ := QR
    have D' : DraR (xst h 0 5 w) a qa pa (dC s) := r2.frame F e (fun c v y => by
      have y : c = 0 := y
      rw [y] at v
      unfold DRC at v
      rw [t0] at v
      omega) (fun c c1 _ _ => lo c 0 (by omega)) (fun c k c1 _ _ _ => lo c k (by omega))
    refine ⟨by rw [xpl_ok (by decide)]; exact r1, D', fun y => (lo 40 5 (by decide)).trans (r3 y), fun y => ?_⟩
    obtain ⟨g1, g2, g3⟩ := r4 y
    refine ⟨g1.lo r2 (fun c k c1 _ => lo c k (by omega)) (fun c k c1 _ _ => lo c k (by omega)), g2.keep (lo 40 5 (by decide)) (fun k => lo 51 k (by decide)), fun i x hi hx hx2 => ?_⟩
    obtain ⟨b1, b2⟩ := g3 i x hi hx hx2
    exact ⟨(lo 50 i (by decide)).trans b1, b2.keep (fun n _ => ⟨lo 48 _ (by decide), lo 49 _ (by decide)⟩)⟩
  · have y : c = 0 := y
    rw [y] at v
    unfold ALC at v
    rw [t0] at v
    omega
theorem s_B_takeWord {G : XG} {d : Nat} {h : XH} {Q : XV → XH → Prop} {X : Nat → XH → Prop} {s : CS} {n9 s9 : Int} (R : CIR h s) (hn : 0 ≤ n9) (hs : 0 ≤ s9) (q : CAN Q X xI h (cTakeWord s) n9 s9) : xwp G m_B_takeWord (d + 8) 0 [xR 0] [] h Q X := by
  have T := R.2.1
  have ht := T.1
  unfold cTakeWord at q
  refine v_B_takeWord_0 R.fx ?_
  rw [ht]
  refine s_Tape_seekRun R.fx T (by decide) (by omega) (Int.le_refl _) (fun h1 i e hi he F1 S1 n1 l1 T1 p4 p5 RL p3 => ?_)
  have fin : ∀ w, w = twd (tC s) → xwp G m_B_takeWord (d + 8) 30 [xR 0] [xL w, xR 0] h1 Q X := by
    intro w hw
    refine v_B_takeWord_30 F1 ?_
    refine ⟨?_, ?_⟩
    · first | exact ft_0 F1 | decide
    · refine ⟨?_, ?_⟩
      · first | exact ft_0 F1 | decide
      · intro F9
        subst hw
        have wr := twd_rng (tC s)
        obtain ⟨R1, C1, v1⟩ := R.tape F1 S1 T1
        have F2 : xFix (xst h1 0 5 (twd (tC s))) := F1.stT (t := 0) (by decide) (ft_0 F1) (by decide +kernel)
        obtain ⟨R2, C2, v2⟩ := R1.word F2 wr
        obtain ⟨R3, C3, v3⟩ := R2.tape F9 ((xsm.refl _).st (by decide) (Or.inl (Or.inl rfl))) (R2.2.1.take (n := 0) (Int.le_refl _) (by omega))
        have ev : xpl (xst h1 0 5 (twd (tC s))) 0 5 = twd (tC s) := xpl_hit _ _ _ _
        rw [ev]
        refine q.1 rfl _ R3 (CLW.trans (CLW.trans C1 C2) C3) ?_ ?_
        · unfold nxP; rw [v3, v2, v1]; show xnx h1 - _ ≤ _; omega
        · unfold slP; rw [v3, v2, v1]; show xsl h1 - _ ≤ _; omega
  refine v_B_takeWord_16 F1 ?_
  refine ⟨fun q1 => ?_, fun q1 => ?_⟩
  · refine fin 0 ?_
    unfold twd
    rw [← hi, ← he, if_neg (of_decide_eq_false (bz0 q1))]
  · refine ⟨?_, ?_⟩
    · exact RL.kp
    · refine fin _ ?_
      unfold twd
      rw [← hi, ← he, if_pos (of_decide_eq_true (bz1 q1))]
      exact RL.rw F1

end
