/-! ===== bi2 ===== -/
section
def cntW (ws : List Int) (w : Int) : Int := (ws.count w : Int)
theorem RowR.cnt {h : XH} {r : Int} {ws : List Int} (R : RowR h r ws) (w : Int) : cntR h r w = cntW ws w := by
  obtain ⟨-, h2, h3⟩ := R
  have key : ∀ k : Nat, k ≤ ws.length → cntH h r w k = ((ws.take k).count w : Int) := by
    intro k
    induction k with
    | zero => intro _; rfl
    | succ k ih =>
      intro hk
      have e : cntH h r w (k + 1) = cntH h r w k + (if xpl h r k = w then 1 else 0) := rfl
      rw [e, ih (by omega), List.take_succ, List.count_append, h3 k (by omega)]
      show _ = (((ws.take k).count w + [xpl h r k].count w : Nat) : Int)
      rw [List.count_singleton]
      by_cases z : xpl h r k = w
      · rw [if_pos z, if_pos (by rw [z]; exact beq_self_eq_true w)]; omega
      · rw [if_neg z, if_neg (by simpa using z)]; omega
  unfold cntR cntW
  rw [h2, show ((ws.length : Int)).toNat = ws.length by omega, key _ (Nat.le_refl _), List.take_length]
theorem CIR.row {h : XH} {s : CS} (R : CIR h s) {p : Int} (h0 : 0 ≤ p) (h1 : p < (fC s).length) (f : Int) : RowOK h (txr h (Jvm.Pilot.CBeaconIndexLaw_law_r4563_e8011d.fat h p) f) (rwT (fA s p).1 f) := (R.fat h0 h1).2.1.row f
theorem CIR.bat {h : XH} {s : CS} (R : CIR h s) {p : Int} (h0 : 0 ≤ p) (h1 : p < (bC s).length) : TxtR h (alg h 6 p) (((bC s)[p.toNat]?).getD (0, 0, 0, [], [])) := by
  obtain ⟨-, -, ⟨bp, fp, S⟩, -⟩ := R
  have g := S.1.1.get h0 (by rw [S.1.2.2.1]; exact h1)
  have hb : p.toNat < (bC s).length := by omega
  have := (S.2.1 _ _ _ g (List.getElem?_eq_getElem hb)).1
  rw [List.getElem?_eq_getElem hb]
  exact this
theorem kidx_rng (b : List Txt) (k : Int) : -1 ≤ kidx b k ∧ kidx b k < b.length := idxI_rng _ b
theorem sidx_rng (f : List (Txt × Bool)) (k : Int) : -1 ≤ sidx f k ∧ sidx f k < f.length := idxI_rng _ f
theorem s_B_lengthOf {G : XG} {d : Nat} {h : XH} {Q : XV → XH → Prop} {X : Nat → XH → Prop} {s : CS} {x y f n9 s9 : Int} (R : CIR h s) (M : Room h n9 s9) (hn : 0 ≤ n9) (hs : 0 ≤ s9) (q : CAN Q X xI h (cLengthOf s x y f) n9 s9) : xwp G m_B_lengthOf (d + 9) 0 [xR 0, xI x, xI y, xI f] [] h Q X := by
  obtain ⟨-, -, e3, e4, -⟩ := R.eqs
  have hr := R.room M
  unfold cLengthOf at q
  have no : ¬ ((0 ≤ x ∧ x < (zC s).length) ∧ (0 ≤ y ∧ y < szA (zC s) x) ∧ 0 ≤ f ∧ f < 2) → ∀ F9 : xFix (xmk h 300 6 (fun _ => 0)), X 2 (xmk h 300 6 (fun _ => 0)) := fun z F9 => by
    rw [if_neg z] at q
    exact CAN.thr (k := 2) q R hn hs F9
  have ft : x < (zC s).length → 0 ≤ x → 0 ≤ y → y < szA (zC s) x → RowOK h (txr h (Jvm.Pilot.CBeaconIndexLaw_law_r4563_e8011d.fat h (stA (zC s) x + y)) f) (rwT (fA s (stA (zC s) x + y)).1 f) := fun a b c e => by
    have w := R.wf.1.1.pl b a
    exact R.row (by omega) (by omega) f
  refine v_B_lengthOf_0 R.fx ?_
  refine ⟨fun q1 => ?_, fun q1 => ?_⟩
  · refine ⟨?_, ?_⟩
    · first | exact R.ok | omega | (rw [e4] at q2; rw [e3] at q4 ⊢; exact (ft q2 (by omega) (by omega) q4).2.2.2.1.1)
    · refine ⟨?_, ?_⟩
      · first | exact R.ok | omega | (rw [e4] at q2; rw [e3] at q4 ⊢; exact (ft q2 (by omega) (by omega) q4).2.2.2.1.1)
      · intro F9
        (rw [e4] at *; rw [e3] at *; exact no (by omega) F9)
  · refine ⟨fun q2 => ?_, fun q2 => ?_⟩
    · refine ⟨fun q3 => ?_, fun q3 => ?_⟩
      · refine ⟨?_, ?_⟩
        · first | exact R.ok | omega | (rw [e4] at q2; rw [e3] at q4 ⊢; exact (ft q2 (by omega) (by omega) q4).2.2.2.1.1)
        · refine ⟨?_, ?_⟩
          · first | exact R.ok | omega | (rw [e4] at q2; rw [e3] at q4 ⊢; exact (ft q2 (by omega) (by omega) q4).2.2.2.1.1)
          · intro F9
            (rw [e4] at *; rw [e3] at *; exact no (by omega) F9)
      · refine ⟨?_, ?_⟩
        · first | exact R.ok | omega | (rw [e4] at q2; rw [e3] at q4 ⊢; exact (ft q2 (by omega) (by omega) q4).2.2.2.1.1)
        · refine ⟨fun q4 => ?_, fun q4 => ?_⟩
          · refine ⟨fun q5 => ?_, fun q5 => ?_⟩
            · refine ⟨?_, ?_⟩
              · first | exact R.ok | omega | (rw [e4] at q2; rw [e3] at q4 ⊢; exact (ft q2 (by omega) (by omega) q4).2.2.2.1.1)
              · refine ⟨?_, ?_⟩
                · first | exact R.ok | omega | (rw [e4] at q2; rw [e3] at q4 ⊢; exact (ft q2 (by omega) (by omega) q4).2.2.2.1.1)
                · intro F9
                  (rw [e4] at *; rw [e3] at *; exact no (by omega) F9)
            · refine ⟨fun q6 => ?_, fun q6 => ?_⟩
              · refine ⟨?_, ?_⟩
                · first | exact R.ok | omega | (rw [e4] at q2; rw [e3] at q4 ⊢; exact (ft q2 (by omega) (by omega) q4).2.2.2.1.1)
                · rw [e4] at q2
                  rw [e3] at q4 ⊢
                  rw [if_pos ⟨⟨by omega, q2⟩, ⟨by omega, q4⟩, by omega, q6⟩] at q
                  rw [(ft q2 (by omega) (by omega) q4).2.2.2.1.2.1]
                  exact CAN.ret q R (by omega) (by omega)
              · refine ⟨?_, ?_⟩
                · first | exact R.ok | omega | (rw [e4] at q2; rw [e3] at q4 ⊢; exact (ft q2 (by omega) (by omega) q4).2.2.2.1.1)
                · refine ⟨?_, ?_⟩
                  · first | exact R.ok | omega | (rw [e4] at q2; rw [e3] at q4 ⊢; exact (ft q2 (by omega) (by omega) q4).2.2.2.1.1)
                  · intro F9
                    (rw [e4] at *; rw [e3] at *; exact no (by omega) F9)
          · refine ⟨?_, ?_⟩
            · first | exact R.ok | omega | (rw [e4] at q2; rw [e3] at q4 ⊢; exact (ft q2 (by omega) (by omega) q4).2.2.2.1.1)
            · refine ⟨?_, ?_⟩
              · first | exact R.ok | omega | (rw [e4] at q2; rw [e3] at q4 ⊢; exact (ft q2 (by omega) (by omega) q4).2.2.2.1.1)
              · intro F9
                (rw [e4] at *; rw [e3] at *; exact no (by omega) F9)
    · refine ⟨?_, ?_⟩
      · first | exact R.ok | omega | (rw [e4] at q2; rw [e3] at q4 ⊢; exact (ft q2 (by omega) (by omega) q4).2.2.2.1.1)
      · refine ⟨?_, ?_⟩
        · first | exact R.ok | omega | (rw [e4] at q2; rw [e3] at q4 ⊢; exact (ft q2 (by omega) (by omega) q4).2.2.2.1.1)
        · intro F9
          (rw [e4] at *; rw [e3] at *; exact no (by omega) F9)
theorem s_B_segmentOf {G : XG} {d : Nat} {h : XH} {Q : XV → XH → Prop} {X : Nat → XH → Prop} {s : CS} {k n9 s9 : Int} (R : CIR h s) (M : Room h n9 s9) (hn : 0 ≤ n9) (hs : 0 ≤ s9) (q : CAN Q X xI h (cSegmentOf s k) n9 s9) : xwp G m_B_segmentOf (d + 8) 0 [xR 0, xI k, xZ] [] h Q X := by
  obtain ⟨e1, e2, e3, -⟩ := R.eqs
  have hr := R.room M
  unfold cSegmentOf at q
  refine v_B_segmentOf_0 R.fx ?_
  refine ⟨fun q1 => ?_, fun q1 => ?_⟩
  · refine ⟨?_, ?_⟩
    · first | exact R.ok | omega
    · refine ⟨?_, ?_⟩
      · first | exact R.ok | omega
      · intro F9
        rw [if_neg (by omega)] at q
        exact CAN.thr (k := 0) q R hn hs F9
  · refine ⟨fun q2 => ?_, fun q2 => ?_⟩
    · refine ⟨?_, ?_⟩
      · first | exact R.ok | omega
      · refine ⟨fun q3 => ?_, fun q3 => ?_⟩
        · refine ⟨fun q4 => ?_, fun q4 => ?_⟩
          · rw [e1] at q3
            rw [e2] at q4
            rw [if_pos ⟨by omega, by omega⟩, if_neg (by omega), if_pos q4] at q
            exact CAN.ret q R (by omega) (by omega)
          · rw [e1] at q3
            rw [e2] at q4
            rw [if_pos ⟨by omega, by omega⟩, if_neg (by omega), if_neg q4] at q
            rw [e2, e3]
            exact CAN.ret q R (by omega) (by omega)
        · rw [e1] at q3
          rw [if_pos ⟨by omega, by omega⟩, if_pos q3] at q
          exact CAN.ret q R (by omega) (by omega)
    · refine ⟨?_, ?_⟩
      · first | exact R.ok | omega
      · refine ⟨?_, ?_⟩
        · first | exact R.ok | omega
        · intro F9
          rw [if_neg (by omega)] at q
          exact CAN.thr (k := 0) q R hn hs F9
theorem s_B_shelfOf {G : XG} {d : Nat} {h : XH} {Q : XV → XH → Prop} {X : Nat → XH → Prop} {s : CS} {k n9 s9 : Int} (R : CIR h s) (M : Room h n9 s9) (hn : 0 ≤ n9) (hs : 0 ≤ s9) (q : CAN Q X xI h (cShelfOf s k) n9 s9) : xwp G m_B_shelfOf (d + 8) 0 [xR 0, xI k, xZ] [] h Q X := by
  obtain ⟨e1, e2, e3, -⟩ := R.eqs
  have hr := R.room M
  have kr := kidx_rng (bC s) k
  have sr := sidx_rng (fC s) k
  unfold cShelfOf at q
  refine v_B_shelfOf_0 R.fx ?_
  refine ⟨fun q1 => ?_, fun q1 => ?_⟩
  · refine ⟨?_, ?_⟩
    · first | exact R.ok | omega | (rw [e1] at q3 ⊢; exact (R.bat (by omega) kr.2).1.2.2)
    · refine ⟨?_, ?_⟩
      · first | exact R.ok | omega | (rw [e1] at q3 ⊢; exact (R.bat (by omega) kr.2).1.2.2)
      · intro F9
        rw [if_neg (by omega)] at q
        exact CAN.thr (k := 0) q R hn hs F9
  · refine ⟨fun q2 => ?_, fun q2 => ?_⟩
    · refine ⟨?_, ?_⟩
      · first | exact R.ok | omega | (rw [e1] at q3 ⊢; exact (R.bat (by omega) kr.2).1.2.2)
      · refine ⟨fun q3 => ?_, fun q3 => ?_⟩
        · refine ⟨fun q4 => ?_, fun q4 => ?_⟩
          · rw [e1] at q3
            rw [e2] at q4
            rw [if_pos ⟨by omega, by omega⟩, if_neg (by omega), if_pos q4] at q
            exact CAN.ret q R (by omega) (by omega)
          · rw [e1] at q3
            rw [e2] at q4
            rw [if_pos ⟨by omega, by omega⟩, if_neg (by omega), if_neg q4] at q
            rw [e2, (R.fat (by omega) sr.2).2.1.2.1.2.1]
            exact CAN.ret q R (by omega) (by omega)
        · refine ⟨?_, ?_⟩
          · first | exact R.ok | omega | (rw [e1] at q3 ⊢; exact (R.bat (by omega) kr.2).1.2.2)
          · rw [e1] at q3 ⊢
            rw [if_pos ⟨by omega, by omega⟩, if_pos q3] at q
            rw [(R.bat (by omega) kr.2).2.1.2.1]
            exact CAN.ret q R (by omega) (by omega)
    · refine ⟨?_, ?_⟩
      · first | exact R.ok | omega | (rw [e1] at q3 ⊢; exact (R.bat (by omega) kr.2).1.2.2)
      · refine ⟨?_, ?_⟩
        · first | exact R.ok | omega | (rw [e1] at q3 ⊢; exact (R.bat (by omega) kr.2).1.2.2)
        · intro F9
          rw [if_neg (by omega)] at q
          exact CAN.thr (k := 0) q R hn hs F9
def cWordByte (s : CS) (x : Int) : (Int × Int) × CS := (if 0 ≤ x ∧ x < wsz (wC s) then (0, byt (sat (wC s) x)) else (3, 0), s)
theorem s_B_wordByte {G : XG} {d : Nat} {h : XH} {Q : XV → XH → Prop} {X : Nat → XH → Prop} {s : CS} {x n9 s9 : Int} (R : CIR h s) (M : Room h n9 s9) (hn : 0 ≤ n9) (hs : 0 ≤ s9) (q : CAN Q X xI h (cWordByte s x) n9 s9) : xwp G m_B_wordByte (d + 7) 0 [xR 0, xI x] [] h Q X := by
  have hr := R.room M
  have ew := R.2.2.2.2.1
  have wr := R.wf.2.2.2.1
  unfold cWordByte at q
  refine v_B_wordByte_0 R.fx ?_
  refine ⟨fun q1 => ?_, fun q1 => ?_⟩
  · refine ⟨?_, ?_⟩
    · first | omega | (rw [ew]; exact (sat_nn wr.1 x).1)
    · refine ⟨?_, ?_⟩
      · first | omega | (rw [ew]; exact (sat_nn wr.1 x).1)
      · intro F9
        rw [if_neg (by omega)] at q
        exact CAN.thr (k := 2) q R hn hs F9
  · refine ⟨fun q2 => ?_, fun q2 => ?_⟩
    · refine ⟨?_, ?_⟩
      · first | omega | (rw [ew]; exact (sat_nn wr.1 x).1)
      · rw [ew] at q2 ⊢
        rw [if_pos ⟨by omega, q2⟩] at q
        exact CAN.ret q R (by omega) (by omega)
    · refine ⟨?_, ?_⟩
      · first | omega | (rw [ew]; exact (sat_nn wr.1 x).1)
      · refine ⟨?_, ?_⟩
        · first | omega | (rw [ew]; exact (sat_nn wr.1 x).1)
        · intro F9
          rw [ew] at q2
          rw [if_neg (fun z => q2 z.2)] at q
          exact CAN.thr (k := 2) q R hn hs F9
def cTimesIn (s : CS) (k f : Int) : (Int × Int) × CS := (if 0 ≤ k ∧ k < 100 then (if 0 ≤ f ∧ f < 2 then (0, if sidx (fC s) k = -1 then 0 else cntW (rwT (fA s (sidx (fC s) k)).1 f) (wC s)) else (3, 0)) else (1, 0), s)
theorem s_B_timesIn {G : XG} {d : Nat} {h : XH} {Q : XV → XH → Prop} {X : Nat → XH → Prop} {s : CS} {k f n9 s9 : Int} (R : CIR h s) (M : Room h n9 s9) (hn : 0 ≤ n9) (hs : 0 ≤ s9) (q : CAN Q X xI h (cTimesIn s k f) n9 s9) : xwp G m_B_timesIn (d + 8) 0 [xR 0, xI k, xI f, xZ] [] h Q X := by
  obtain ⟨e1, e2, e3, -⟩ := R.eqs
  have hr := R.room M
  have ew := R.2.2.2.2.1
  have sr := sidx_rng (fC s) k
  unfold cTimesIn at q
  refine v_B_timesIn_0 R.fx ?_
  refine ⟨fun q1 => ?_, fun q1 => ?_⟩
  · refine ⟨?_, ?_⟩
    · first | exact R.ok | omega
    · refine ⟨?_, ?_⟩
      · first | exact R.ok | omega
      · intro F9
        rw [if_neg (by omega)] at q
        exact CAN.thr (k := 0) q R hn hs F9
  · refine ⟨fun q2 => ?_, fun q2 => ?_⟩
    · refine ⟨fun q3 => ?_, fun q3 => ?_⟩
      · refine ⟨?_, ?_⟩
        · first | exact R.ok | omega
        · refine ⟨?_, ?_⟩
          · first | exact R.ok | omega
          · intro F9
            rw [if_pos ⟨by omega, by omega⟩, if_neg (by omega)] at q
            exact CAN.thr (k := 2) q R hn hs F9
      · refine ⟨fun q4 => ?_, fun q4 => ?_⟩
        · refine ⟨?_, ?_⟩
          · first | exact R.ok | omega
          · refine ⟨fun q5 => ?_, fun q5 => ?_⟩
            · rw [e2] at q5
              rw [if_pos ⟨by omega, by omega⟩, if_pos ⟨by omega, by omega⟩, if_pos q5] at q
              exact CAN.ret q R (by omega) (by omega)
            · rw [e2] at q5 ⊢
              rw [if_pos ⟨by omega, by omega⟩, if_pos ⟨by omega, by omega⟩, if_neg q5] at q
              rw [ew, (R.row (by omega) sr.2 f).2.2.2.1.cnt]
              exact CAN.ret q R (by omega) (by omega)
        · refine ⟨?_, ?_⟩
          · first | exact R.ok | omega
          · refine ⟨?_, ?_⟩
            · first | exact R.ok | omega
            · intro F9
              rw [if_pos ⟨by omega, by omega⟩, if_neg (by omega)] at q
              exact CAN.thr (k := 2) q R hn hs F9
    · refine ⟨?_, ?_⟩
      · first | exact R.ok | omega
      · refine ⟨?_, ?_⟩
        · first | exact R.ok | omega
        · intro F9
          rw [if_neg (by omega)] at q
          exact CAN.thr (k := 0) q R hn hs F9
/-- in how many texts a word stands -/
def twF (fl w : Int) : List (Txt × Bool) → Int
  | [] => 0
  | x :: r => (if cntW (rwT x.1 fl) w ≤ 0 then 0 else 1) + twF fl w r
theorem twF_rng (fl w : Int) : ∀ f : List (Txt × Bool), 0 ≤ twF fl w f ∧ twF fl w f ≤ f.length
  | [] => ⟨Int.le_refl _, Int.le_refl _⟩
  | x :: r => by
    have := twF_rng fl w r
    unfold twF
    rw [List.length_cons]
    split <;> omega
def cTextsWith (s : CS) (f : Int) : (Int × Int) × CS := (if 0 ≤ f ∧ f < 2 then (0, twF f (wC s) (fC s)) else (3, 0), s)
def cRarity (s : CS) (f : Int) : (Int × Int) × CS := (if 0 ≤ f ∧ f < 2 then (0, rrF (fC s).length (twF f (wC s) (fC s))) else (3, 0), s)
theorem fA_at {s : CS} {i : Nat} (hi : i < (fC s).length) : (fC s)[i]? = some (fA s i) := by
  unfold fA
  rw [show (i : Int).toNat = i by omega, List.getElem?_eq_getElem hi]; rfl
theorem s_B_textsWith {G : XG} {d : Nat} {h : XH} {Q : XV → XH → Prop} {X : Nat → XH → Prop} {s : CS} {f n9 s9 : Int} (R : CIR h s) (M : Room h n9 s9) (hn : 0 ≤ n9) (hs : 0 ≤ s9) (q : CAN Q X xI h (cTextsWith s f) n9 s9) : xwp G m_B_textsWith (d + 8) 0 [xR 0, xI f, xZ, xZ] [] h Q X := by
  obtain ⟨e1, e2, e3, -, -, -, e7⟩ := R.eqs
  have hr := R.room M
  have ew := R.2.2.2.2.1
  have hl := R.wf.1.2
  unfold cTextsWith at q
  have loop : 0 ≤ f → f < 2 → ∀ (m i : Nat) (c : Int), i + m = (fC s).length → 0 ≤ c → c ≤ i → c + twF f (wC s) ((fC s).drop i) = twF f (wC s) (fC s) → xwp G m_B_textsWith (d + 8) 8 [xR 0, xI f, xI c, xI i] [] h Q X := by
    intro f0 f1 m
    rw [if_pos ⟨f0, f1⟩] at q
    induction m with
    | zero =>
      intro i c e c0 c1 hv
      rw [List.drop_eq_nil_of_le (by omega)] at hv
      have hv : c + 0 = twF f (wC s) (fC s) := hv
      refine v_B_textsWith_8 R.fx ?_
      refine ⟨?_, ?_⟩
      · first | exact R.ok.2.1 | exact R.ok | omega
      · refine ⟨fun q1 => ?_, fun q1 => ?_⟩
        · rw [show c = twF f (wC s) (fC s) by omega]; exact CAN.ret q R (by omega) (by omega)
        · refine ⟨?_, ?_⟩
          · first | exact R.ok.2.1 | exact R.ok | omega
          · refine ⟨fun q2 => ?_, fun q2 => ?_⟩
            · omega
            · refine ⟨?_, ?_⟩
              · first | exact R.ok.2.1 | exact R.ok | omega
              · omega
    | succ m ih =>
      intro i c e c0 c1 hv
      have hi : i < (fC s).length := by omega
      obtain ⟨a1, a2⟩ := List.getElem?_eq_some_iff.mp (fA_at hi)
      rw [List.drop_eq_getElem_cons a1, a2] at hv
      have hv : c + ((if cntW (rwT (fA s i).1 f) (wC s) ≤ 0 then 0 else 1) + twF f (wC s) ((fC s).drop (i + 1))) = twF f (wC s) (fC s) := hv
      have hrow := (R.row (p := i) (by omega) (by omega) f).2.2.2.1.cnt (wC s)
      refine v_B_textsWith_8 R.fx ?_
      refine ⟨?_, ?_⟩
      · first | exact R.ok.2.1 | exact R.ok | exact ⟨by omega, by omega⟩ | omega
      · refine ⟨fun q1 => ?_, fun q1 => ?_⟩
        · omega
        · refine ⟨?_, ?_⟩
          · first | exact R.ok.2.1 | exact R.ok | exact ⟨by omega, by omega⟩ | omega
          · refine ⟨fun q2 => ?_, fun q2 => ?_⟩
            · rw [ew, hrow] at q2
              rw [if_pos q2] at hv
              exact ih (i + 1) c (by omega) c0 (by omega) (by omega)
            · refine ⟨?_, ?_⟩
              · first | exact R.ok.2.1 | exact R.ok | exact ⟨by omega, by omega⟩ | omega
              · rw [ew, hrow] at q2
                rw [if_neg q2] at hv
                exact ih (i + 1) (c + 1) (by omega) (by omega) (by omega) (by omega)
  refine v_B_textsWith_0 R.fx ?_
  refine ⟨fun q1 => ?_, fun q1 => ?_⟩
  · refine ⟨?_, ?_⟩
    · omega
    · refine ⟨?_, ?_⟩
      · omega
      · intro F9
        rw [if_neg (by omega)] at q
        exact CAN.thr (k := 2) q R hn hs F9
  · refine ⟨fun q2 => ?_, fun q2 => ?_⟩
    · exact loop (by omega) (by omega) (fC s).length 0 0 (by omega) (Int.le_refl _) (Int.le_refl _) (by rw [List.drop_zero]; omega)
    · refine ⟨?_, ?_⟩
      · omega
      · refine ⟨?_, ?_⟩
        · omega
        · intro F9
          rw [if_neg (by omega)] at q
          exact CAN.thr (k := 2) q R hn hs F9
theorem s_B_rarity {G : XG} {d : Nat} {h : XH} {Q : XV → XH → Prop} {X : Nat → XH → Prop} {s : CS} {f n9 s9 : Int} (R : CIR h s) (M : Room h n9 s9) (hn : 0 ≤ n9) (hs : 0 ≤ s9) (q : CAN Q X xI h (cRarity s f) n9 s9) : xwp G m_B_rarity (d + 9) 0 [xR 0, xI f] [] h Q X := by
  have hl := R.wf.1.2
  have e7 := R.eqs.2.2.2.2.2.2
  unfold cRarity at q
  refine v_B_rarity_0 R.fx ?_
  refine ⟨?_, ?_⟩
  · exact R.ok.2.1
  · refine s_B_textsWith R M hn hs ⟨fun e h' R' S' n' l' => ?_, fun k e h' R' S' n' l' => ?_⟩
    · unfold cTextsWith at e R' ⊢
      by_cases z : 0 ≤ f ∧ f < 2
      · rw [if_pos z] at q ⊢
        have tr := twF_rng f (wC s) (fC s)
        show xwp G m_B_rarity (d + 9) 15 [xZ, xZ] [xI (twF f (wC s) (fC s)), xI (als h 7)] h' Q X
        refine v_B_rarity_15 R'.fx ?_
        refine ⟨?_, ?_⟩
        · omega
        · refine ⟨?_, ?_⟩
          · omega
          · refine ⟨?_, ?_⟩
            · omega
            · refine ⟨?_, ?_⟩
              · omega
              · rw [e7]; exact q.1 rfl h' R' S' n' l'
      · rw [if_neg z] at e
        have e : (3 : Int) = 0 := e
        omega
    · unfold cTextsWith at e R'
      by_cases z : 0 ≤ f ∧ f < 2
      · rw [if_pos z] at e
        have e : (0 : Int) = k + 1 := e
        omega
      · rw [if_neg z] at e q
        exact q.2 k e h' R' S' n' l'

end
