/-! ===== digest ===== -/
section
/-! the checksum -/
def sti (d v : Int) : Int := xw64 (xw64 (d * 31) + v)
def DI (h h2 : XH) (s : CS) : Prop := CIR h2 s ∧ xsm (CLW h) h h2 ∧ nxP h2 ≤ nxP h ∧ slP h2 ≤ slP h
theorem DI.rm {h h2 : XH} {s : CS} (I : DI h h2 s) (M : Room h 0 0) : Room h2 0 0 := ⟨by have := M.1; have := I.2.2.1; omega, by have := M.2; have := I.2.2.2; omega⟩
theorem CAN.dg {Q : XV → XH → Prop} {X : Nat → XH → Prop} {mk : Int → XV} {h h2 : XH} {s : CS} {r : (Int × Int) × CS} {v : Int} (I : DI h h2 s) (e : r = ((0, v), s)) (k : ∀ h3, DI h h3 s → Q (mk v) h3) : CAN Q X mk h2 r 0 0 := by
  rw [e]
  refine ⟨fun _ h' R L n l => k h' ⟨R, CLW.trans I.2.1 L, ?_, ?_⟩, fun k e => ?_⟩
  · have := I.2.2.1; omega
  · have := I.2.2.2; omega
  · have e : (0 : Int) = k + 1 := e
    omega
/-- texts of a segment, from i on -/
def sgT (s : CS) (x : Int) : Nat → Int → Int → Int
  | 0, _, d => d
  | m + 1, i, d => sgT s x m (i + 1) (sti (sti (sti (sti d (fA s (stA (zC s) x + i)).1.1) (b2i (fA s (stA (zC s) x + i)).2)) (rwT (fA s (stA (zC s) x + i)).1 0).length) (rwT (fA s (stA (zC s) x + i)).1 1).length)
def sgD (s : CS) (x d : Int) : Int := sgT s x (szA (zC s) x).toNat 0 (sti (sti (sti (sti (sti d (szA (zC s) x)) (goneF (fC s) (stA (zC s) x).toNat (szA (zC s) x).toNat)) (lvl (szA (zC s) x))) (wvs s 0 (stA (zC s) x) (szA (zC s) x).toNat).length) (wvs s 1 (stA (zC s) x) (szA (zC s) x).toNat).length)
theorem s_B_stirSegment {G : XG} {d : Nat} {h : XH} {Q : XV → XH → Prop} {X : Nat → XH → Prop} {s : CS} {x c : Int} (R : CIR h s) (M : Room h 0 0) (x0 : 0 ≤ x) (x1 : x < (zC s).length) (hq : ∀ h', DI h h' s → Q (xL (sgD s x c)) h') : xwp G m_B_stirSegment (d + 10) 0 [xR 0, xL c, xZ, xI x, xZ, xZ, xZ] [] h Q X := by
  have z0 : (0 : Int) ≤ 0 := Int.le_refl _
  have w := R.wf.1.1.pl x0 x1
  have l60 := R.wf.1.2
  have I0 : DI h h s := ⟨R, xsm.refl h, Int.le_refl _, Int.le_refl _⟩
  have eT : cTextsIn s x = ((0, szA (zC s) x), s) := by unfold cTextsIn; rw [if_pos ⟨x0, x1⟩]
  have loop : ∀ (m i : Nat) (c : Int) (h2 : XH), i + m = (szA (zC s) x).toNat → DI h h2 s → (∀ h', DI h h' s → Q (xL (sgT s x m i c)) h') → xwp G m_B_stirSegment (d + 10) 73 [xR 0, xZ, xZ, xI x, xL c, xZ, xI i] [] h2 Q X := by
    intro m
    induction m with
    | zero =>
      intro i c h2 e I hq
      refine v_B_stirSegment_73 I.1.fx ?_
      refine s_B_textsIn I.1 (I.rm M) z0 z0 (CAN.dg I eT (fun h3 I3 => ?_))
      refine v_B_stirSegment_80 I3.1.fx ?_
      refine ⟨fun q1 => ?_, fun q1 => ?_⟩
      · exact hq h3 I3
      · omega
    | succ m ih =>
      intro i c h2 e I hq
      have ok : (0 ≤ x ∧ x < (zC s).length) ∧ 0 ≤ (i : Int) ∧ (i : Int) < szA (zC s) x := ⟨⟨x0, x1⟩, by omega, by omega⟩
      refine v_B_stirSegment_73 I.1.fx ?_
      refine s_B_textsIn I.1 (I.rm M) z0 z0 (CAN.dg I eT (fun h3 I3 => ?_))
      refine v_B_stirSegment_80 I3.1.fx ?_
      refine ⟨fun q1 => ?_, fun q1 => ?_⟩
      · omega
      · refine s_B_keyAt I3.1 (I3.rm M) z0 z0 (CAN.dg I3 (v := (fA s (stA (zC s) x + i)).1.1) (by unfold cKeyAt; rw [if_pos ok]) (fun h4 I4 => ?_))
        refine v_B_stirSegment_92 I4.1.fx ?_
        refine s_B_isMarked I4.1 (I4.rm M) z0 z0 (CAN.dg I4 (v := b2i (fA s (stA (zC s) x + i)).2) (by unfold cIsMarked; rw [if_pos ok]) (fun h5 I5 => ?_))
        have k115 : xwp G m_B_stirSegment (d + 10) 115 [xR 0, xZ, xZ, xI x, xZ, xZ, xI i] [xL (b2i (fA s (stA (zC s) x + i)).2), xL (sti c (fA s (stA (zC s) x + i)).1.1)] h5 Q X := by
          refine v_B_stirSegment_115 I5.1.fx ?_
          refine s_B_lengthOf I5.1 (I5.rm M) z0 z0 (CAN.dg I5 (v := (rwT (fA s (stA (zC s) x + i)).1 0).length) (by unfold cLengthOf; rw [if_pos ⟨ok.1, ok.2, by decide, by decide⟩]) (fun h6 I6 => ?_))
          refine v_B_stirSegment_130 I6.1.fx ?_
          refine s_B_lengthOf I6.1 (I6.rm M) z0 z0 (CAN.dg I6 (v := (rwT (fA s (stA (zC s) x + i)).1 1).length) (by unfold cLengthOf; rw [if_pos ⟨ok.1, ok.2, by decide, by decide⟩]) (fun h7 I7 => ?_))
          refine v_B_stirSegment_146 I7.1.fx ⟨⟨by omega, by omega⟩, ?_⟩
          exact ih (i + 1) _ h7 (by omega) I7 hq
        refine v_B_stirSegment_107 I5.1.fx ?_
        refine ⟨fun q1 => ?_, fun q1 => ?_⟩
        · rw [q1] at k115; exact k115
        · have : b2i (fA s (stA (zC s) x + i)).2 = 1 := by have := b2i_rng (fA s (stA (zC s) x + i)).2; omega
          rw [this] at k115; exact k115
  have eW : ∀ f : Int, 0 ≤ f → f < 2 → cWordsIn s x f = (((0 : Int), (((wvs s f (stA (zC s) x) (szA (zC s) x).toNat).length : Nat) : Int)), s) := fun f f0 f1 => by unfold cWordsIn; rw [if_pos ⟨⟨x0, x1⟩, f0, f1⟩]
  refine v_B_stirSegment_0 R.fx ?_
  refine s_B_textsIn R M z0 z0 (CAN.dg I0 eT (fun h1 I1 => ?_))
  refine v_B_stirSegment_10 I1.1.fx ?_
  refine s_B_markedIn I1.1 (I1.rm M) z0 z0 (CAN.dg I1 (v := goneF (fC s) (stA (zC s) x).toNat (szA (zC s) x).toNat) (by unfold cMarkedIn; rw [if_pos ⟨x0, x1⟩]) (fun h2 I2 => ?_))
  refine v_B_stirSegment_23 I2.1.fx ?_
  refine s_B_levelOf I2.1 (I2.rm M) z0 z0 (CAN.dg I2 (v := lvl (szA (zC s) x)) (by unfold cLevelOf; rw [if_pos ⟨x0, x1⟩]) (fun h3 I3 => ?_))
  refine v_B_stirSegment_36 I3.1.fx ?_
  refine s_B_wordsIn I3.1 (I3.rm M) z0 z0 (CAN.dg I3 (eW 0 (by decide) (by decide)) (fun h4 I4 => ?_))
  refine v_B_stirSegment_50 I4.1.fx ?_
  refine s_B_wordsIn I4.1 (I4.rm M) z0 z0 (CAN.dg I4 (eW 1 (by decide) (by decide)) (fun h5 I5 => ?_))
  refine v_B_stirSegment_64 I5.1.fx ?_
  exact loop (szA (zC s) x).toNat 0 _ h5 (by omega) I5 hq
/-- the word's bytes -/
def wdB (s : CS) : Nat → Int → Int → Int
  | 0, _, d => d
  | m + 1, k, d => wdB s m (k + 1) (sti d (byt (sat (wC s) k)))
def wdE (s : CS) : Nat → Int → Int → Int
  | 0, _, d => d
  | m + 1, f, d => wdE s m (f + 1) (sti (sti d (twF f (wC s) (fC s))) (rrF (fC s).length (twF f (wC s) (fC s))))
def wdD (s : CS) (d : Int) : Int := wdE s 2 0 (wdB s (wsz (wC s)).toNat 0 (sti d (wsz (wC s))))
theorem s_B_stirWord {G : XG} {d : Nat} {h : XH} {Q : XV → XH → Prop} {X : Nat → XH → Prop} {s : CS} {c : Int} (R : CIR h s) (M : Room h 0 0) (hq : ∀ h', DI h h' s → Q (xL (wdD s c)) h') : xwp G m_B_stirWord (d + 10) 0 [xR 0, xL c, xZ, xZ, xZ, xZ, xZ] [] h Q X := by
  have z0 : (0 : Int) ≤ 0 := Int.le_refl _
  have I0 : DI h h s := ⟨R, xsm.refl h, Int.le_refl _, Int.le_refl _⟩
  have wr := wsz_rng (wC s)
  have fields : ∀ (m i : Nat) (c : Int) (h2 : XH), i + m = 2 → DI h h2 s → (∀ h', DI h h' s → Q (xL (wdE s m i c)) h') → xwp G m_B_stirWord (d + 10) 48 [xR 0, xZ, xZ, xZ, xL c, xZ, xI i] [] h2 Q X := by
    intro m
    induction m with
    | zero =>
      intro i c h2 e I hq
      refine v_B_stirWord_48 I.1.fx ?_
      refine ⟨fun q1 => ?_, fun q1 => ?_⟩
      · exact hq h2 I
      · omega
    | succ m ih =>
      intro i c h2 e I hq
      have ok : 0 ≤ (i : Int) ∧ (i : Int) < 2 := ⟨by omega, by omega⟩
      refine v_B_stirWord_48 I.1.fx ?_
      refine ⟨fun q1 => ?_, fun q1 => ?_⟩
      · omega
      · refine s_B_textsWith I.1 (I.rm M) z0 z0 (CAN.dg I (v := twF i (wC s) (fC s)) (by unfold cTextsWith; rw [if_pos ok]) (fun h3 I3 => ?_))
        refine v_B_stirWord_62 I3.1.fx ?_
        refine s_B_rarity I3.1 (I3.rm M) z0 z0 (CAN.dg I3 (v := rrF (fC s).length (twF i (wC s) (fC s))) (by unfold cRarity; rw [if_pos ok]) (fun h4 I4 => ?_))
        refine v_B_stirWord_76 I4.1.fx ⟨⟨by omega, by omega⟩, ?_⟩
        exact ih (i + 1) _ h4 (by omega) I4 hq
  have bytes : ∀ (m i : Nat) (c : Int) (h2 : XH), i + m = (wsz (wC s)).toNat → DI h h2 s → (∀ h', DI h h' s → Q (xL (wdE s 2 0 (wdB s m i c))) h') → xwp G m_B_stirWord (d + 10) 19 [xR 0, xZ, xZ, xI (wsz (wC s)), xL c, xZ, xI i] [] h2 Q X := by
    intro m
    induction m with
    | zero =>
      intro i c h2 e I hq
      refine v_B_stirWord_19 I.1.fx ?_
      refine ⟨fun q1 => ?_, fun q1 => ?_⟩
      · exact fields 2 0 c h2 rfl I hq
      · omega
    | succ m ih =>
      intro i c h2 e I hq
      refine v_B_stirWord_19 I.1.fx ?_
      refine ⟨fun q1 => ?_, fun q1 => ?_⟩
      · omega
      · refine s_B_wordByte I.1 (I.rm M) z0 z0 (CAN.dg I (v := byt (sat (wC s) i)) (by unfold cWordByte; rw [if_pos ⟨by omega, by omega⟩]) (fun h3 I3 => ?_))
        refine v_B_stirWord_33 I3.1.fx ⟨⟨by omega, by omega⟩, ?_⟩
        exact ih (i + 1) _ h3 (by omega) I3 hq
  have ew := R.2.2.2.2.1
  refine v_B_stirWord_0 R.fx ?_
  rw [ew]
  exact bytes (wsz (wC s)).toNat 0 _ h (by omega) I0 hq
def qA1 (s : CS) : Nat → Int → Int → Int
  | 0, _, d => d
  | m + 1, p, d => qA1 s m (p + 1) (sti (sti (sti (sti d (fA s (oA s p)).1.1) (wtF (dC s) (fC s) (oA s p))) (cFirstFit s (fA s (oA s p)).1.1 0).1.2) (cFirstFit s (fA s (oA s p)).1.1 1).1.2)
def qA2 (s : CS) : Nat → Int → Int → Int
  | 0, _, d => d
  | m + 1, p, d => qA2 s m (p + 1) (sti d (foF s p (oC s)))
def qA3 (s : CS) : Nat → Int → Int → Int
  | 0, _, d => d
  | m + 1, p, d => qA3 s m (p + 1) (sti d (cwF (dC s) (fC s) p (((dC s).2[0]?).getD []) (fC s)))
def quD (s : CS) (d : Int) : Int := qA3 s (nP s).toNat 0 (qA2 s 8 0 (qA1 s (oC s).length 0 (sti (sti d (nP s)) (oC s).length)))
theorem s_B_stirQuestion {G : XG} {d : Nat} {h : XH} {Q : XV → XH → Prop} {X : Nat → XH → Prop} {s : CS} {c : Int} (R : CIR h s) (M : Room h 0 0) (hd : 0 < (dC s).2.length) (hq : ∀ h', DI h h' s → Q (xL (quD s c)) h') : xwp G m_B_stirQuestion (d + 9) 0 [xR 0, xL c, xZ, xZ, xZ, xZ, xZ] [] h Q X := by
  have z0 : (0 : Int) ≤ 0 := Int.le_refl _
  have I0 : DI h h s := ⟨R, xsm.refl h, Int.le_refl _, Int.le_refl _⟩
  have hne : ¬ (dC s).2.length = 0 := by omega
  have n40 : 0 ≤ nP s ∧ nP s ≤ 40 := by
    obtain ⟨qa, pa, ns, W, -, y1, -, -, -, -, -, y6, -, y8⟩ := R.q0 hd
    obtain ⟨ns', v1, -, -, -, -, -, v7⟩ := W.q (i := 0) hd
    rw [y1] at v1
    cases v1
    omega
  obtain ⟨O, O1, O2, O3⟩ := R.ord hd
  have l60 := R.wf.1.2
  have eP : cParts s = ((0, nP s), s) := by unfold cParts; rw [if_neg hne]
  have eF : cFound s = ((0, ((oC s).length : Int)), s) := by unfold cFound; rw [if_neg hne]
  have p3 : ∀ (m i : Nat) (c : Int) (h2 : XH), i + m = (nP s).toNat → DI h h2 s → (∀ h', DI h h' s → Q (xL (qA3 s m i c)) h') → xwp G m_B_stirQuestion (d + 9) 123 [xR 0, xZ, xZ, xL c, xZ, xI i, xZ] [] h2 Q X := by
    intro m
    induction m with
    | zero =>
      intro i c h2 e I hq
      refine v_B_stirQuestion_123 I.1.fx ?_
      refine s_B_parts I.1 (I.rm M) z0 z0 (CAN.dg I eP (fun h3 I3 => ?_))
      refine v_B_stirQuestion_129 I3.1.fx ?_
      refine ⟨fun q1 => ?_, fun q1 => ?_⟩
      · exact hq h3 I3
      · omega
    | succ m ih =>
      intro i c h2 e I hq
      refine v_B_stirQuestion_123 I.1.fx ?_
      refine s_B_parts I.1 (I.rm M) z0 z0 (CAN.dg I eP (fun h3 I3 => ?_))
      refine v_B_stirQuestion_129 I3.1.fx ?_
      refine ⟨fun q1 => ?_, fun q1 => ?_⟩
      · omega
      · refine s_B_foundWithout I3.1 (I3.rm M) z0 z0 (CAN.dg I3 (v := cwF (dC s) (fC s) i (((dC s).2[0]?).getD []) (fC s)) (by unfold cFoundWithout; rw [if_neg hne, if_pos ⟨by omega, by omega⟩]) (fun h4 I4 => ?_))
        refine v_B_stirQuestion_139 I4.1.fx ⟨⟨by omega, by omega⟩, ?_⟩
        exact ih (i + 1) _ h4 (by omega) I4 hq
  have p2 : ∀ (m i : Nat) (c : Int) (h2 : XH), i + m = 8 → DI h h2 s → (∀ h', DI h h' s → Q (xL (qA3 s (nP s).toNat 0 (qA2 s m i c))) h') → xwp G m_B_stirQuestion (d + 9) 95 [xR 0, xZ, xZ, xL c, xZ, xI i, xZ] [] h2 Q X := by
    intro m
    induction m with
    | zero =>
      intro i c h2 e I hq
      refine v_B_stirQuestion_95 I.1.fx ?_
      refine ⟨fun q1 => ?_, fun q1 => ?_⟩
      · exact p3 (nP s).toNat 0 c h2 (by omega) I hq
      · omega
    | succ m ih =>
      intro i c h2 e I hq
      refine v_B_stirQuestion_95 I.1.fx ?_
      refine ⟨fun q1 => ?_, fun q1 => ?_⟩
      · omega
      · refine s_B_foundOn I.1 (I.rm M) z0 z0 (CAN.dg I (v := foF s i (oC s)) (by unfold cFoundOn; rw [if_neg hne, if_pos ⟨by omega, by omega⟩]) (fun h4 I4 => ?_))
        refine v_B_stirQuestion_109 I4.1.fx ⟨⟨by omega, by omega⟩, ?_⟩
        exact ih (i + 1) _ h4 (by omega) I4 hq
  have p1 : ∀ (m i : Nat) (c : Int) (h2 : XH), i + m = (oC s).length → DI h h2 s → (∀ h', DI h h' s → Q (xL (qA3 s (nP s).toNat 0 (qA2 s 8 0 (qA1 s m i c)))) h') → xwp G m_B_stirQuestion (d + 9) 23 [xR 0, xZ, xZ, xL c, xZ, xI i, xZ] [] h2 Q X := by
    intro m
    induction m with
    | zero =>
      intro i c h2 e I hq
      refine v_B_stirQuestion_23 I.1.fx ?_
      refine s_B_found I.1 (I.rm M) z0 z0 (CAN.dg I eF (fun h3 I3 => ?_))
      refine v_B_stirQuestion_29 I3.1.fx ?_
      refine ⟨fun q1 => ?_, fun q1 => ?_⟩
      · exact p2 8 0 c h3 rfl I3 hq
      · omega
    | succ m ih =>
      intro i c h2 e I hq
      refine v_B_stirQuestion_23 I.1.fx ?_
      refine s_B_found I.1 (I.rm M) z0 z0 (CAN.dg I eF (fun h3 I3 => ?_))
      refine v_B_stirQuestion_29 I3.1.fx ?_
      refine ⟨fun q1 => ?_, fun q1 => ?_⟩
      · omega
      · refine s_B_keyFound I3.1 (I3.rm M) z0 z0 (CAN.dg I3 (v := (fA s (oA s i)).1.1) (by unfold cKeyFound; rw [if_neg hne, if_pos ⟨by omega, by omega⟩]) (fun h4 I4 => ?_))
        refine v_B_stirQuestion_38 I4.1.fx ?_
        refine s_B_weightFound I4.1 (I4.rm M) z0 z0 (CAN.dg I4 (v := wtF (dC s) (fC s) (oA s i)) (by unfold cWeightFound; rw [if_neg hne, if_pos ⟨by omega, by omega⟩]) (fun h5 I5 => ?_))
        have io : i < (oC s).length := by omega
        have om := O2 ((oC s)[i]) (List.getElem_mem io)
        have eo : oA s i = (oC s)[i] := by unfold oA; rw [show (i : Int).toNat = i by omega, List.getElem?_eq_getElem io]; rfl
        have tw := (R.wf.2.2.2.2.2 _ (List.mem_of_getElem? (fA_at (s := s) (i := oA s i) (by rw [eo]; exact om)))).1
        have ff : ∀ f : Int, 0 ≤ f → f < 2 → cFirstFit s (fA s (oA s i)).1.1 f = ((0, (cFirstFit s (fA s (oA s i)).1.1 f).1.2), s) := fun f f0 f1 => by unfold cFirstFit; rw [if_neg hne, if_pos tw, if_pos ⟨f0, f1⟩]
        refine v_B_stirQuestion_55 I5.1.fx ?_
        refine s_B_firstFit I5.1 (I5.rm M) z0 z0 (CAN.dg I5 (ff 0 (by decide) (by decide)) (fun h6 I6 => ?_))
        refine v_B_stirQuestion_68 I6.1.fx ?_
        refine s_B_firstFit I6.1 (I6.rm M) z0 z0 (CAN.dg I6 (ff 1 (by decide) (by decide)) (fun h7 I7 => ?_))
        refine v_B_stirQuestion_81 I7.1.fx ⟨⟨by omega, by omega⟩, ?_⟩
        exact ih (i + 1) _ h7 (by omega) I7 hq
  refine v_B_stirQuestion_0 R.fx ?_
  refine s_B_parts R M z0 z0 (CAN.dg I0 eP (fun h1 I1 => ?_))
  refine v_B_stirQuestion_5 I1.1.fx ?_
  refine s_B_found I1.1 (I1.rm M) z0 z0 (CAN.dg I1 eF (fun h2 I2 => ?_))
  refine v_B_stirQuestion_15 I2.1.fx ?_
  exact p1 (oC s).length 0 _ h2 (by omega) I2 hq
def sgL (s : CS) : Nat → Int → Int → Int
  | 0, _, d => d
  | m + 1, x, d => sgL s m (x + 1) (sgD s x d)
def dgF (s : CS) : Int := if (dC s).2.length = 0 then sti (wdD s (sgL s (zC s).length 0 (sti (sti (sti (sti 2447 ((bC s).length + (fC s).length)) (bC s).length) (mC s)) (zC s).length))) 0
  else quD s (sti (wdD s (sgL s (zC s).length 0 (sti (sti (sti (sti 2447 ((bC s).length + (fC s).length)) (bC s).length) (mC s)) (zC s).length))) 1)
def cDigest (s : CS) : (Int × Int) × CS := ((0, dgF s), s)
theorem s_B_digest {G : XG} {d : Nat} {h : XH} {Q : XV → XH → Prop} {X : Nat → XH → Prop} {s : CS} {n9 s9 : Int} (R : CIR h s) (M9 : Room h n9 s9) (hn : 0 ≤ n9) (hs : 0 ≤ s9) (q : CAN Q X xL h (cDigest s) n9 s9) : xwp G m_B_digest (d + 11) 0 [xR 0, xZ, xZ, xZ] [] h Q X := by
  have z0 : (0 : Int) ≤ 0 := Int.le_refl _
  have M : Room h 0 0 := ⟨by have := M9.1; omega, by have := M9.2; omega⟩
  have I0 : DI h h s := ⟨R, xsm.refl h, Int.le_refl _, Int.le_refl _⟩
  have l60 : (zC s).length ≤ 60 := by
    obtain ⟨-, -, ⟨bp, fp, S⟩, -⟩ := R
    exact S.2.2.2.2.1.2.1
  have fin : ∀ h', DI h h' s → Q (xL (dgF s)) h' := fun h' I => q.1 rfl h' I.1 I.2.1 (by have := I.2.2.1; omega) (by have := I.2.2.2; omega)
  have seg : ∀ (m i : Nat) (c : Int) (h2 : XH), i + m = (zC s).length → DI h h2 s → (∀ h', DI h h' s → xwp G m_B_stirWord (d + 10) 0 [xR 0, xL (sgL s m i c), xZ, xZ, xZ, xZ, xZ] [] h' (fun v9 h9 => xwp G m_B_digest (d + 11) 72 [xR 0, xZ, xZ, xZ] (xpush v9 []) h9 Q X) X) → xwp G m_B_digest (d + 11) 46 [xR 0, xL c, xZ, xI i] [] h2 Q X := by
    intro m
    induction m with
    | zero =>
      intro i c h2 e I hq
      refine v_B_digest_46 I.1.fx ?_
      refine s_B_segments I.1 z0 z0 (CAN.dg I (v := (zC s).length) rfl (fun h3 I3 => ?_))
      refine v_B_digest_51 I3.1.fx ?_
      refine ⟨fun q1 => ?_, fun q1 => ?_⟩
      · exact hq h3 I3
      · omega
    | succ m ih =>
      intro i c h2 e I hq
      refine v_B_digest_46 I.1.fx ?_
      refine s_B_segments I.1 z0 z0 (CAN.dg I (v := (zC s).length) rfl (fun h3 I3 => ?_))
      refine v_B_digest_51 I3.1.fx ?_
      refine ⟨fun q1 => ?_, fun q1 => ?_⟩
      · omega
      · refine s_B_stirSegment I3.1 (I3.rm M) (by omega) (by omega) (fun h4 I4 => ?_)
        have I4' : DI h h4 s := ⟨I4.1, CLW.trans I3.2.1 I4.2.1, by have := I4.2.2.1; have := I3.2.2.1; omega, by have := I4.2.2.2; have := I3.2.2.2; omega⟩
        refine v_B_digest_60 I4.1.fx ⟨⟨by omega, by omega⟩, ?_⟩
        exact ih (i + 1) _ h4 (by omega) I4' hq
  refine v_B_digest_0 R.fx ?_
  refine s_B_texts R z0 z0 (CAN.dg I0 (v := (bC s).length + (fC s).length) rfl (fun h1 I1 => ?_))
  refine v_B_digest_9 I1.1.fx ?_
  refine s_B_buffered I1.1 z0 z0 (CAN.dg I1 (v := (bC s).length) rfl (fun h2 I2 => ?_))
  refine v_B_digest_19 I2.1.fx ?_
  refine s_B_merges I2.1 z0 z0 (CAN.dg I2 (v := mC s) rfl (fun h3 I3 => ?_))
  refine v_B_digest_29 I3.1.fx ?_
  refine s_B_segments I3.1 z0 z0 (CAN.dg I3 (v := (zC s).length) rfl (fun h4 I4 => ?_))
  refine v_B_digest_39 I4.1.fx ?_
  refine seg (zC s).length 0 _ h4 (by omega) I4 (fun h5 I5 => ?_)
  refine s_B_stirWord I5.1 (I5.rm M) (fun h6 I6 => ?_)
  have I6' : DI h h6 s := ⟨I6.1, CLW.trans I5.2.1 I6.2.1, by have := I6.2.2.1; have := I5.2.2.1; omega, by have := I6.2.2.2; have := I5.2.2.2; omega⟩
  obtain ⟨c1, c2, c3, -⟩ := I6.1.q
  refine v_B_digest_72 I6.1.fx ?_
  refine ⟨?_, ?_⟩
  · first | exact c1 | exact c2
  · refine ⟨?_, ?_⟩
    · first | exact c1 | exact c2
    · refine ⟨fun q1 => ?_, fun q1 => ?_⟩
      · have z := of_decide_eq_true q1
        refine v_B_digest_89 I6.1.fx ?_
        refine ⟨?_, ?_⟩
        · first | exact c1 | exact c2
        · refine ⟨?_, ?_⟩
          · first | exact c1 | exact c2
          · refine ⟨fun q1 => ?_, fun q1 => ?_⟩
            · refine v_B_digest_112 I6.1.fx ?_
              have := fin h6 I6'
              unfold dgF at this
              rw [if_pos (by omega)] at this
              exact this
            · exact absurd (decide_eq_true z) q1
      · have z : ¬ als h6 (xpl h6 0 6) = 0 := fun y => q1 (decide_eq_true y)
        refine v_B_digest_89 I6.1.fx ?_
        refine ⟨?_, ?_⟩
        · first | exact c1 | exact c2
        · refine ⟨?_, ?_⟩
          · first | exact c1 | exact c2
          · refine ⟨fun q1 => ?_, fun q1 => ?_⟩
            · exact absurd (of_decide_eq_true q1) z
            · refine s_B_stirQuestion I6.1 (I6'.rm M) (by omega) (fun h7 I7 => ?_)
              have I7' : DI h h7 s := ⟨I7.1, CLW.trans I6'.2.1 I7.2.1, by have := I7.2.2.1; have := I6'.2.2.1; omega, by have := I7.2.2.2; have := I6'.2.2.2; omega⟩
              refine v_B_digest_112 I7.1.fx ?_
              have := fin h7 I7'
              unfold dgF at this
              rw [if_neg (by omega)] at this
              exact this

end
