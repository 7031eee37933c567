/-! ===== takes ===== -/
section
theorem TKP.map {Q Q' : XV → XH → Prop} {h0 h : XH} {bs : List Int} {a : Int} {n : Nat} {res : Option RS} (F : xFix h) (hQ : ∀ b h9, xFix h9 → (0 ≤ b ∧ b ≤ 1) → Q (xI b) h9 → Q' (xI b) h9) (hq : TKP Q h0 h bs a n res) : TKP Q' h0 h bs a n res :=
  ⟨fun e => hQ 0 h F ⟨by decide, by decide⟩ (hq.1 e), fun r' h' qa' pa' e1 B e2 e3 e4 e5 e6 e7 => hQ 1 h' B.1.1 ⟨by decide, by decide⟩ (hq.2 r' h' qa' pa' e1 B e2 e3 e4 e5 e6 e7)⟩
theorem re_lt (bs : List Int) {s : Int} (h : s < bs.length) (h2 : ¬ sgn (lat bs s) = 0) : s < re bs s bs.length := by
  unfold re
  rw [show ((bs.length : Int) - s).toNat = ((bs.length : Int) - s).toNat - 1 + 1 by omega]
  have e : reF bs (((bs.length : Int) - s).toNat - 1 + 1) s = if sgn (lat bs s) = 0 then s else reF bs (((bs.length : Int) - s).toNat - 1) (s + 1) := rfl
  rw [e, if_neg h2]
  have := reF_rng bs (((bs.length : Int) - s).toNat - 1) (s + 1)
  omega
/-- from another heap with the same bounds -/
theorem TKP.from {Q : XV → XH → Prop} {h0 h h1 : XH} {bs : List Int} {a : Int} {n : Nat} {r' : RS} (hq : TKP Q h0 h bs a n (some r')) (hn : xnx h1 = xnx h) (hl : xsl h1 = xsl h) (e9 : xpl h1 32 9 = xpl h 32 9) (e10 : xpl h1 32 10 = xpl h 32 10) (e8 : xpl h 32 8 ≤ xpl h1 32 8 ∧ sb bs (xpl h1 32 8) = sb bs (xpl h 32 8)) : ∀ h' qa' pa', RdB h0 h' bs a qa' pa' r'.2.1 r'.2.2.1 → RdF h' a pa' r' → xnx h' ≤ xnx h1 + 8 → xsl h' ≤ xsl h1 + 4 * n + 70 → xpl h' 32 9 = xpl h1 32 9 → xpl h' 32 10 = xpl h1 32 10 → (xpl h1 32 8 ≤ xpl h' 32 8 ∧ xpl h' 32 8 ≤ bs.length ∧ sb bs (xpl h' 32 8) = sb bs (xpl h1 32 8)) → Q (xI 1) h' :=
  fun h' qa' pa' B RF n1 l1 y9 y10 y8 => hq.2 r' h' qa' pa' rfl B RF (by omega) (by omega) (y9.trans e9) (y10.trans e10) ⟨by omega, y8.2.1, y8.2.2.trans e8.2⟩
theorem ntT_run {bs : List Int} {s : Int} (h : ntT bs s = 1) : ¬ lat bs s = -1 ∧ ¬ sgn (lat bs s) = 0 ∧ ntA bs s = re bs s bs.length ∧ s < bs.length := by
  unfold ntT at h
  have a : ¬ lat bs s = -1 := fun y => by rw [if_pos y] at h; exact absurd h (by decide)
  rw [if_neg a] at h
  have b : ¬ sgn (lat bs s) = 0 := fun y => by
    rw [if_pos y] at h
    split at h
    · rename_i w
      unfold tsF at w
      have w := of_decide_eq_true w
      omega
    · exact absurd h (by decide)
  refine ⟨a, b, by unfold ntA; rw [if_neg a, if_neg b], ?_⟩
  by_cases z : s < bs.length
  · exact z
  · exact absurd (lat_out (Or.inr (by omega))) a
theorem ntT_run2 {bs : List Int} {s : Int} (h : ntT bs s = 1) : lat bs s ≠ 1 := fun y => by
  unfold ntT at h
  rw [y, if_neg (by decide), if_pos (by decide)] at h
  exact absurd h (by decide)
theorem sb_idem {bs : List Int} {p : Int} (h0 : 0 ≤ p) (h1 : p ≤ bs.length) : sb bs (sb bs p) = sb bs p := by
  have key : ∀ (n : Nat) (p : Int), p + n = bs.length → 0 ≤ p → sb bs (sbF bs n p) = sbF bs n p := by
    intro n
    induction n with
    | zero => intro p e g0; show sbF bs (bs.length - p).toNat p = p; rw [show ((bs.length : Int) - p).toNat = 0 by omega]; rfl
    | succ n ih =>
      intro p e g0
      have e2 : sbF bs (n + 1) p = if lat bs p = 32 then sbF bs n (p + 1) else p := rfl
      rw [e2]
      by_cases z : lat bs p = 32
      · rw [if_pos z]; exact ih (p + 1) (by omega) (by omega)
      · rw [if_neg z]
        show sbF bs (bs.length - p).toNat p = p
        rw [show ((bs.length : Int) - p).toNat = n + 1 by omega]
        show (if lat bs p = 32 then sbF bs n (p + 1) else p) = p
        rw [if_neg z]
  have := key ((bs.length : Int) - p).toNat p (by omega) h0
  exact this
theorem p_Tape_runUnshortened {G : XG} {d : Nat} {h : XH} {Q : XV → XH → Prop} {X : Nat → XH → Prop} {ls : List Int} (F : xFix h) (R : RunL h ls) (hq : Q (xL (wvF ls ls.length)) h) : xwp G m_Tape_runUnshortened (d + 4) 0 [xR 1] [] h Q X := by
  have k := R.kp
  unfold kpt at k
  refine v_Tape_runUnshortened_0 F ?_
  refine ⟨?_, ?_⟩
  · first | exact k.1 | exact k.2 | omega
  · refine ⟨?_, ?_⟩
    · first | exact k.1 | exact k.2 | omega
    · have e := R.fl ls.length (Nat.le_refl _)
      rw [R.1, show ((ls.length : Int)).toNat = ls.length by omega, e]
      exact hq
theorem s_QR_takesRun {G : XG} {d : Nat} {h : XH} {Q : XV → XH → Prop} {X : Nat → XH → Prop} {h0 : XH} {bs qa pa : List Int} {a s : Int} {r : RS} {n : Nat} (B : RdB h0 h bs a qa pa r.2.1 r.2.2.1) (RF : RdF h a pa r) (I : RDI n r) (hn : n < 40) (hT : ntT bs s = 1) (s0 : 0 ≤ s) (RA : RunAt h bs s) (h9 : xpl h 32 9 = s) (h8 : xpl h 32 8 = ntA bs s) (h11 : xpl h 32 11 = ntW bs s 0) (hc : xnx h + 8 ≤ xKC) (hs : xsl h + 4 * n + 70 ≤ xKS) (hq : TKP Q h0 h bs a n (tkR bs s r)) : xwp G m_QuestionReader_takesRun (d + 9) 0 [xR 32, xR 1, xZ] [] h Q X := by
  have F := B.1.1
  have hnx := F.nx
  have f1 := RF.1.1
  obtain ⟨t1, t2, t3, t4⟩ := ntT_run hT
  have her := re_rng bs (i := s) (lim := bs.length) (by omega)
  have hlt := re_lt bs t4 t2
  have hb4 := B.1.2.2.1.2.1
  rw [t3] at h8
  obtain ⟨e, he⟩ : ∃ e, e = re bs s bs.length := ⟨_, rfl⟩
  rw [← he] at h8 her hlt t3
  obtain ⟨RL, r4, r5⟩ := RA
  rw [← he] at RL r5
  have hb01 : ∀ b h9, xFix h9 → (0 ≤ b ∧ b ≤ 1) → Q (xI b) h9 → xwp G m_QuestionReader_takesRun (d + 9) 20 [xZ, xZ, xZ] [xI b] h9 Q X := fun b h9 F9 hb q => by
    refine v_QuestionReader_takesRun_20 F9 ?_
    refine ⟨?_, ?_⟩
    · exact hb
    · exact q
  have hb02 : ∀ b h9, xFix h9 → (0 ≤ b ∧ b ≤ 1) → Q (xI b) h9 → xwp G m_QuestionReader_takesRun (d + 9) 44 [xZ, xZ, xZ] [xI b] h9 Q X := fun b h9 F9 hb q => by
    refine v_QuestionReader_takesRun_44 F9 ?_
    refine ⟨?_, ?_⟩
    · exact hb
    · exact q
  unfold tkR at hq
  rw [t3] at hq
  have phr : r.1.1 = 4 ∨ r.1.1 = 5 → xwp G m_QuestionReader_takesPhraseRun (d + 8) 0 [xR 32] [] h (fun v9 h9 => xwp G m_QuestionReader_takesRun (d + 9) 20 [xZ, xZ, xZ] (xpush v9 []) h9 Q X) X := fun y => by
    rw [if_pos y, ← h11] at hq
    exact s_QR_takesPhraseRun B RF I (by omega) y (by omega) (hq.map F (fun b h9 F9 hb q => hb01 b h9 F9 hb q))
  have num : r.1.1 = 6 ∨ r.1.1 = 7 → xwp G m_QuestionReader_takesNumber (d + 8) 0 [xR 32, xR 1, xZ, xZ, xZ, xZ] [] h (fun v9 h9 => xwp G m_QuestionReader_takesRun (d + 9) 44 [xZ, xZ, xZ] (xpush v9 []) h9 Q X) X := fun y => by
    rw [if_neg (by omega), if_pos y] at hq
    have la := I.2.1.2.2.2 (by omega)
    have hpm := B.2.2.1.pm (List.mem_of_getElem? (RF.2.1.2.2 la))
    refine s_QR_takesNumber F B.1.2.2.1 h8 h9 f1 rfl hpm.2.2 (by omega) s0 hlt (by omega) (fun z => ?_) (fun v z v0 v1 h' F' eh => ?_)
    · rw [z] at hq
      exact hb02 0 h F ⟨by decide, by decide⟩ (hq.1 rfl)
    · rw [z] at hq
      have hq : TKP Q h0 h bs a n (some (if r.1.1 = 6 then stF (sdF r 7 v) 10 else stF (sdF r 6 v) 11)) := hq
      refine hb02 1 h' F' ⟨by decide, by decide⟩ ?_
      have done : ∀ (k st9 : Int), k = 6 ∨ k = 7 → 6 ≤ st9 → h' = xst (xst h (xpl h 32 7) k v) 32 12 st9 → TKP Q h0 h bs a n (some (stF (sdF r k v) st9)) → Q (xI 1) h' := fun k st9 hk hst eh hq => by
        rw [eh] at F' ⊢
        have F1 : xFix (xst h (xpl h 32 7) k v) := F.stD hpm.1
        have ok9 : ∀ t, PTok t → PTok (upP t k v) := by
          intro t ht
          refine ⟨?_, ?_, ?_, ?_, ?_, ?_, ?_, ?_, ht.2.2.2.2.2.2.2.2⟩
          · show 0 ≤ (if (0 : Int) = k then v else t.1 0) ∧ (if (0 : Int) = k then v else t.1 0) < 40
            rw [if_neg (by omega)]; exact ht.1
          · show (if (1 : Int) = k then v else t.1 1) = 0 ∨ (if (1 : Int) = k then v else t.1 1) = 43 ∨ (if (1 : Int) = k then v else t.1 1) = 45
            rw [if_neg (by omega)]; exact ht.2.1
          · show 0 ≤ (if (2 : Int) = k then v else t.1 2) ∧ (if (2 : Int) = k then v else t.1 2) ≤ 2
            rw [if_neg (by omega)]; exact ht.2.2.1
          · show 0 ≤ (if (5 : Int) = k then v else t.1 5) ∧ (if (5 : Int) = k then v else t.1 5) ≤ 3
            rw [if_neg (by omega)]; exact ht.2.2.2.1
          · show 0 ≤ (if (6 : Int) = k then v else t.1 6) ∧ (if (6 : Int) = k then v else t.1 6) ≤ 99
            split
            · omega
            · exact ht.2.2.2.2.1
          · show 0 ≤ (if (7 : Int) = k then v else t.1 7) ∧ (if (7 : Int) = k then v else t.1 7) ≤ 99
            split
            · omega
            · exact ht.2.2.2.2.2.1
          · show 0 ≤ (if (9 : Int) = k then v else t.1 9) ∧ (if (9 : Int) = k then v else t.1 9) ≤ 1000
            rw [if_neg (by omega)]; exact ht.2.2.2.2.2.2.1
          · show 0 ≤ (if (10 : Int) = k then v else t.1 10) ∧ (if (10 : Int) = k then v else t.1 10) ≤ 40
            rw [if_neg (by omega)]; exact ht.2.2.2.2.2.2.2.1
        obtain ⟨B1, RF1, -, -, -⟩ := B.sd RF la F1 (by omega) (by omega) ok9
        have e9 : ∀ j, xpl (xst h (xpl h 32 7) k v) 32 j = xpl h 32 j := fun j => by rw [xpl_st, if_neg (by omega)]
        refine hq.2 _ _ qa pa rfl (B1.f32 F' (x32 (by decide))) (RF1.st (fun _ y => by omega) (by omega)) (by show xnx h ≤ _; omega) (by show xsl h ≤ _; omega) ?_ ?_ ?_
        · rw [xpl_st, if_neg (by omega), e9]
        · rw [xpl_st, if_neg (by omega), e9]
        · rw [xpl_st, if_neg (by omega), e9]; exact ⟨Int.le_refl _, by omega, rfl⟩
      by_cases c6 : r.1.1 = 6
      · rw [if_pos c6] at eh hq
        exact done 7 10 (Or.inr rfl) (by decide) eh hq
      · rw [if_neg c6] at eh hq
        exact done 6 11 (Or.inl rfl) (by decide) eh hq
  refine v_QuestionReader_takesRun_0 F ?_
  refine ⟨fun q1 => ?_, fun q1 => ?_⟩
  · exact phr (by omega)
  · refine ⟨fun q2 => ?_, fun q2 => ?_⟩
    · exact phr (by omega)
    · refine ⟨fun q3 => ?_, fun q3 => ?_⟩
      · exact num (by omega)
      · refine ⟨fun q4 => ?_, fun q4 => ?_⟩
        · exact num (by omega)
        · refine ⟨fun q5 => ?_, fun q5 => ?_⟩
          · rw [f1] at q1 q2 q3 q4 q5
            rw [if_neg (by omega), if_neg (by omega), if_pos q5] at hq
            refine s_QR_beginCore B RF q5 (fun h2 B2 RF2 RX2 S2 k2 n2 l2 => ?_)
            have I2 := I.bc
            obtain ⟨r2, hr2⟩ : ∃ r2, r2 = bcF r := ⟨_, rfl⟩
            rw [← hr2] at B2 RF2 RX2 I2 hq
            have F2 := B2.1.1
            have t2k : ∀ c k, c ≠ 32 → c ≠ 33 → c < 93 → xpl h2 c k = xpl h c k := fun c k c1 c2 c3 => S2.pl (by omega) (by omega) k
            have RL2 : RunL h2 (runL bs s e) := RL.keep (fun k => t2k 1 k (by decide) (by decide) (by decide)) (fun k => t2k 4 k (by decide) (by decide) (by decide))
            have h28 : xpl h2 32 8 = e := (k2 8 (by decide) (by decide)).trans h8
            obtain ⟨wv, hwv⟩ : ∃ wv, wv = wvF (runL bs s e) (runL bs s e).length := ⟨_, rfl⟩
            rw [← hwv] at hq
            have k97 : ∀ h3, RdB h0 h3 bs a qa pa r2.2.1 r2.2.2.1 → RdF h3 a pa r2 → RdX h3 r2 → (∀ c k, c = 1 ∨ c = 4 → xpl h3 c k = xpl h c k) → (∀ k, k ≠ 8 → k ≠ 13 → k ≠ 14 → xpl h3 32 k = xpl h 32 k) → (e ≤ xpl h3 32 8 ∧ xpl h3 32 8 ≤ bs.length ∧ sb bs (xpl h3 32 8) = sb bs e) → xnx h3 = xnx h → xsl h3 = xsl h → TKP Q h0 h bs a n (some (stF (sdF (sdF (apF r2 0 [ntW bs s 0]) 8 wv) 9 (e - s)) 8)) → xwp G m_QuestionReader_takesRun (d + 9) 97 [xR 32, xR 1, xZ] [] h3 Q X := by
              intro h3 B3 RF3 RX3 t3k k3 e38 n3 l3 hq
              have F3 := B3.1.1
              have hnx3 := F3.nx
              refine v_QuestionReader_takesRun_97 F3 ?_
              refine ⟨?_, ?_⟩
              · omega
              · refine ⟨?_, ?_⟩
                · omega
                · intro F9
                  obtain ⟨H, hH⟩ : ∃ H, H = xst (xmk h3 101 1 (fun _ => 0)) (xnx h3) 0 (xpl h3 32 11) := ⟨_, rfl⟩
                  rw [← hH] at F9 ⊢
                  have SH : xsm (fun _ => False) h3 H := by rw [hH]; exact ((xsm.refl h3).mk (by decide)).st (by decide) (Or.inr (Int.le_refl _))
                  have nH : xnx H = xnx h3 + 1 := by rw [hH]; exact xnx_mk h3 101 1 (fun _ => 0)
                  have lH : xsl H = xsl h3 + 1 := by rw [hH]; exact xsl_mk h3 101 1 (fun _ => 0)
                  have W : RowOK H (xnx h3) [ntW bs s 0] := by
                    refine ⟨hnx3, by omega, ?_, ⟨by rw [hH]; show xtg (xmk h3 101 1 (fun _ => 0)) _ = _; exact xtg_new rfl, by rw [hH]; show xln (xmk h3 101 1 (fun _ => 0)) _ = _; exact xln_new rfl, fun i hi => ?_⟩, by show 1 ≤ 200; decide⟩
                    · rw [hH, xpl_ok (by decide), xpl_new rfl]
                    · have hi : i < 1 := hi
                      have : i = 0 := by omega
                      subst this
                      rw [hH]
                      show some _ = some _
                      rw [show ((0 : Nat) : Int) = 0 from rfl, xpl_hit, k3 11 (by decide) (by decide) (by decide), h11]
                  have BH := B3.mk F9 SH
                  have RFH := RF3.keep (SH.pl (by omega) (fun y => y)) (SH.pl (by omega) (fun y => y))
                  refine s_QR_appendPart BH RFH (RX3.keep (SH.pl (by omega) (fun y => y))) I2 hn (by decide) (by decide) W (by show 1 ≤ 40; decide) (by omega) (by omega) (fun h4 p B4 RF4 n4 l4 k4 tp4 ⟨hp, hp4, W4⟩ => ?_)
                  have F4 := B4.1.1
                  have k41 : ∀ c k, c = 1 ∨ c = 4 → xpl h4 c k = xpl h c k := fun c k hc => by
                    rw [tp4 c (by unfold TPC; omega), SH.pl (by omega) (fun y => y)]; exact t3k c k hc
                  have RL4 : RunL h4 (runL bs s e) := RL.keep (fun k => k41 1 k (Or.inl rfl)) (fun k => k41 4 k (Or.inr rfl))
                  have k432 : ∀ k, k ≠ 6 → k ≠ 7 → xpl h4 32 k = xpl h3 32 k := fun k k6 k7 => (k4 k k6 k7).trans (SH.pl (by omega) (fun y => y) k)
                  have lal : (apF r2 0 [ntW bs s 0]).2.2.2.1 < (apF r2 0 [ntW bs s 0]).2.1.1.length := by
                    show r2.2.1.1.length < (r2.2.1.1 ++ [_]).length
                    rw [List.length_append]; show r2.2.1.1.length < _ + 1; omega
                  have hpm := B4.2.2.1.pm (List.mem_of_getElem? (RF4.2.1.2.2 lal))
                  refine v_QuestionReader_takesRun_114 F4 ?_
                  refine p_Tape_runUnshortened F4 RL4 ?_
                  rw [← hwv]
                  refine v_QuestionReader_takesRun_122 F4 ?_
                  refine ⟨?_, ?_⟩
                  · first | exact hpm.2.2 | omega
                  · refine ⟨?_, ?_⟩
                    · first | exact hpm.2.2 | omega
                    · intro F9
                      obtain ⟨B5, RF5, -, -, -⟩ := B4.sd RF4 lal F9 (by decide) (by decide) (fun t ht => ht)
                      obtain ⟨h5, hh5⟩ : ∃ h5, h5 = xst h4 (xpl h4 32 7) 8 wv := ⟨_, rfl⟩
                      rw [← hh5] at F9 B5 RF5 ⊢
                      have k5 : ∀ c k, c < 93 → xpl h5 c k = xpl h4 c k := fun c k hc => by rw [hh5, xpl_st, if_neg (by omega)]
                      have b15 : xpl h5 1 5 = e := by rw [k5 1 5 (by decide), k41 1 5 (Or.inl rfl)]; exact r5
                      have b14 : xpl h5 1 4 = s := by rw [k5 1 4 (by decide), k41 1 4 (Or.inl rfl)]; exact r4
                      refine p_Tape_runBytes F9 (by rw [b15, b14]; exact ⟨by omega, by omega⟩) ?_
                      rw [b15, b14]
                      have hpm5 := B5.2.2.1.pm (List.mem_of_getElem? (RF5.2.1.2.2 (by show _ < (List.set _ _ _).length; rw [List.length_set]; exact lal)))
                      have e57 : xpl h4 32 7 = xpl h5 32 7 := (k5 32 7 (by decide)).symm
                      rw [e57]
                      refine v_QuestionReader_takesRun_133 F9 ?_
                      refine ⟨?_, ?_⟩
                      · first | exact hpm5.2.2 | omega
                      · refine ⟨?_, ?_⟩
                        · first | exact hpm5.2.2 | omega
                        · intro F9
                          have F6 : xFix (xst h5 (xpl h5 32 7) 9 (e - s)) := B5.1.1.stD hpm5.1
                          obtain ⟨B6, RF6, -, -, -⟩ := B5.sd RF5 (by show _ < (List.set _ _ _).length; rw [List.length_set]; exact lal) F6 (by decide) (by decide) (fun t ht => ⟨ht.1, ht.2.1, ht.2.2.1, ht.2.2.2.1, ht.2.2.2.2.1, ht.2.2.2.2.2.1, ⟨by show 0 ≤ e - s; omega, by show e - s ≤ 1000; omega⟩, ht.2.2.2.2.2.2.2⟩)
                          have e6 : ∀ k, k ≠ 12 → xpl (xst (xst h5 (xpl h5 32 7) 9 (e - s)) 32 12 8) 32 k = xpl h4 32 k := fun k hk => by
                            rw [xpl_st, if_neg (fun y => hk y.2), xpl_st, if_neg (by omega), k5 32 k (by decide)]
                          have n5 : xnx h5 = xnx h4 := by rw [hh5]; rfl
                          have l5 : xsl h5 = xsl h4 := by rw [hh5]; rfl
                          refine hq.2 _ _ qa (pa ++ [p]) rfl (B6.f32 F9 (x32 (by decide))) (RF6.st (fun _ y => absurd y (by decide)) (by decide)) (by show xnx h5 ≤ _; omega) (by show xsl h5 ≤ _; omega) ?_ ?_ ?_
                          · rw [e6 9 (by decide), k432 9 (by decide) (by decide)]; exact k3 9 (by decide) (by decide) (by decide)
                          · rw [e6 10 (by decide), k432 10 (by decide) (by decide)]; exact k3 10 (by decide) (by decide) (by decide)
                          · rw [e6 8 (by decide), k432 8 (by decide) (by decide), h8]; exact e38
            have e97 : ¬ (r2.1.2.2 = 2 ∧ nmF (runL bs s e) ≠ 2 ∧ lat bs (sb bs e) = 58) → ∀ h3, RdB h0 h3 bs a qa pa r2.2.1 r2.2.2.1 → RdF h3 a pa r2 → RdX h3 r2 → (∀ c k, c = 1 ∨ c = 4 → xpl h3 c k = xpl h c k) → (∀ k, k ≠ 8 → k ≠ 13 → k ≠ 14 → xpl h3 32 k = xpl h 32 k) → (e ≤ xpl h3 32 8 ∧ xpl h3 32 8 ≤ bs.length ∧ sb bs (xpl h3 32 8) = sb bs e) → xnx h3 = xnx h → xsl h3 = xsl h → xwp G m_QuestionReader_takesRun (d + 9) 97 [xR 32, xR 1, xZ] [] h3 Q X := fun y h3 B3 RF3 RX3 t3k k3 e38 n3 l3 => k97 h3 B3 RF3 RX3 t3k k3 e38 n3 l3 (by rw [if_neg y] at hq; exact hq)
            have k14 : ∀ c k, c = 1 ∨ c = 4 → xpl h2 c k = xpl h c k := fun c k hc => t2k c k (by omega) (by omega) (by omega)
            have k32 : ∀ k, k ≠ 8 → k ≠ 13 → k ≠ 14 → xpl h2 32 k = xpl h 32 k := fun k _ y z => k2 k y z
            have hsb := sb_rng (bs := bs) (p := e) (by omega)
            have e28 : e ≤ xpl h2 32 8 ∧ xpl h2 32 8 ≤ bs.length ∧ sb bs (xpl h2 32 8) = sb bs e := by rw [h28]; exact ⟨Int.le_refl _, by omega, rfl⟩
            have g3 := RX2.2
            refine v_QuestionReader_takesRun_58 F2 ?_
            refine ⟨fun q1 => ?_, fun q1 => ?_⟩
            · have w1 := q1
              refine p_QR_namedField F2 RL2 ?_
              refine v_QuestionReader_takesRun_70 F2 ?_
              refine ⟨fun q1 => ?_, fun q1 => ?_⟩
              · exact e97 (fun y => y.2.1 q1) h2 B2 RF2 RX2 k14 k32 e28 n2 l2
              · have w2 := q1
                refine s_QR_isColonNext F2 B2.1.2.2.1 h28 (by omega) (by omega) (fun h3 F3 S3 k3 p3 R3 n3 l3 => ?_)
                have S3' : xsm (fun c => c = 32 ∨ c = 33) h2 h3 := S3.mono (fun _ _ w => Or.inl w)
                have B3 := B2.f32 F3 S3'
                have hnx2 := F2.nx
                have RX3 : RdX h3 r2 := ⟨(k3 13 (by decide)).trans RX2.1, (k3 14 (by decide)).trans RX2.2⟩
                have RF3 : RdF h3 a pa r2 := by
                  obtain ⟨⟨g1, -⟩, ⟨g4, g5, g6⟩, g7⟩ := RF2
                  exact ⟨⟨(k3 12 (by decide)).trans g1, fun _ _ => RX3⟩, ⟨(k3 5 (by decide)).trans g4, (k3 6 (by decide)).trans g5, fun y => by rw [k3 7 (by decide)]; exact g6 y⟩, fun y => ⟨(k3 1 (by decide)).trans (g7 y).1, fun i hi => by rw [S3.pl (by omega) (by decide)]; exact (g7 y).2 i hi⟩⟩
                have k314 : ∀ c k, c = 1 ∨ c = 4 → xpl h3 c k = xpl h c k := fun c k hc => by rw [S3.pl (by omega) (by show ¬ c = 32; omega)]; exact k14 c k hc
                have k332 : ∀ k, k ≠ 8 → k ≠ 13 → k ≠ 14 → xpl h3 32 k = xpl h 32 k := fun k k8 y z => (k3 k k8).trans (k2 k y z)
                have e38 : e ≤ xpl h3 32 8 ∧ xpl h3 32 8 ≤ bs.length ∧ sb bs (xpl h3 32 8) = sb bs e := by rw [p3]; exact ⟨hsb.1, hsb.2, sb_idem (by omega) (by omega)⟩
                have RL3 : RunL h3 (runL bs s e) := RL.keep (fun k => k314 1 k (Or.inl rfl)) (fun k => k314 4 k (Or.inr rfl))
                refine v_QuestionReader_takesRun_79 F3 ?_
                refine ⟨fun q1 => ?_, fun q1 => ?_⟩
                · exact e97 (fun y => of_decide_eq_false (bz0 q1) y.2.2) h3 B3 RF3 RX3 k314 k332 e38 (n3.trans n2) (l3.trans l2)
                · refine p_QR_namedField F3 RL3 ?_
                  rw [if_pos ⟨by omega, w2, of_decide_eq_true (bz1 q1)⟩] at hq
                  refine v_QuestionReader_takesRun_87 F3 ?_
                  intro F9
                  obtain ⟨⟨g1, -⟩, ⟨g4, g5, g6⟩, -⟩ := RF3
                  have g2 := RX3.1
                  have e32 : ∀ j, j ≠ 14 → j ≠ 12 → xpl (xst (xst h3 32 14 (nmF (runL bs s e))) 32 12 3) 32 j = xpl h3 32 j := fun j j1 j2 => by rw [xpl_st, if_neg (by omega), xpl_st, if_neg (by omega)]
                  refine hq.2 _ _ qa pa rfl (B3.f32 F9 ((x32 (by decide)).trans (x32 (by decide)))) ⟨⟨?_, fun _ _ => ⟨?_, ?_⟩⟩, ⟨?_, ?_, ?_⟩, fun y => absurd y (by show ¬ ((3 : Int) = 4 ∨ (3 : Int) = 5); decide)⟩ (by show xnx h3 ≤ _; omega) (by show xsl h3 ≤ _; omega) ?_ ?_ ?_
                  · rw [xpl_st, if_pos ⟨rfl, rfl⟩]; rfl
                  · rw [e32 13 (by decide) (by decide)]; exact g2
                  · rw [xpl_st, if_neg (by omega), xpl_st, if_pos ⟨rfl, rfl⟩]; rfl
                  · rw [e32 5 (by decide) (by decide)]; exact g4
                  · rw [e32 6 (by decide) (by decide)]; exact g5
                  · rw [e32 7 (by decide) (by decide)]; exact g6
                  · rw [e32 9 (by decide) (by decide)]; exact k332 9 (by decide) (by decide) (by decide)
                  · rw [e32 10 (by decide) (by decide)]; exact k332 10 (by decide) (by decide) (by decide)
                  · rw [e32 8 (by decide) (by decide), h8]; exact e38
            · exact e97 (fun y => by omega) h2 B2 RF2 RX2 k14 k32 e28 n2 l2
          · rw [f1] at q1 q2 q3 q4 q5
            rw [if_neg (by omega), if_neg (by omega), if_neg q5] at hq
            exact hq.1 rfl
theorem s_QR_takes {G : XG} {d : Nat} {h : XH} {Q : XV → XH → Prop} {X : Nat → XH → Prop} {h0 : XH} {bs qa pa : List Int} {a s : Int} {r : RS} {n : Nat} (B : RdB h0 h bs a qa pa r.2.1 r.2.2.1) (RF : RdF h a pa r) (I : RDI n r) (hn : n < 40 ∨ ntT bs s = 0) (s0 : 0 ≤ s) (RA : ntT bs s = 1 → RunAt h bs s) (h9 : xpl h 32 9 = s) (h8 : xpl h 32 8 = ntA bs s) (h8l : ntA bs s ≤ bs.length) (h10 : xpl h 32 10 = ntT bs s) (h11 : ntT bs s = 1 → xpl h 32 11 = ntW bs s 0) (hc : xnx h + 8 ≤ xKC) (hs : xsl h + 4 * n + 70 ≤ xKS) (hq : TKP Q h0 h bs a n (tkF bs s r)) : xwp G m_QuestionReader_takes (d + 11) 0 [xR 32, xR 1] [] h Q X := by
  have F := B.1.1
  have f1 := RF.1.1
  have A := B.2.1.1
  have hsz := A.sz
  rw [List.length_cons, List.length_map] at hsz
  rw [← h8] at h8l
  have same : ∀ {Q' : XV → XH → Prop}, TKP Q' h0 h bs a n (some r) → Q' (xI 1) h := fun y => y.2 r h qa pa rfl B RF (by omega) (by omega) rfl rfl ⟨Int.le_refl _, h8l, rfl⟩
  have w109 : ∀ b h9, xFix h9 → (0 ≤ b ∧ b ≤ 1) → Q (xI b) h9 → xwp G m_QuestionReader_takes (d + 11) 109 [xZ, xZ] [xI b] h9 Q X := fun b h9 F9 hb q => by
    refine v_QuestionReader_takes_109 F9 ?_
    refine ⟨?_, ?_⟩
    · exact hb
    · exact q
  have w114 : ∀ b h9, xFix h9 → (0 ≤ b ∧ b ≤ 1) → Q (xI b) h9 → xwp G m_QuestionReader_takes (d + 11) 114 [xZ, xZ] [xI b] h9 Q X := fun b h9 F9 hb q => by
    refine v_QuestionReader_takes_114 F9 ?_
    refine ⟨?_, ?_⟩
    · exact hb
    · exact q
  have w119 : ∀ b h9, xFix h9 → (0 ≤ b ∧ b ≤ 1) → Q (xI b) h9 → xwp G m_QuestionReader_takes (d + 11) 119 [xZ, xZ] [xI b] h9 Q X := fun b h9 F9 hb q => by
    refine v_QuestionReader_takes_119 F9 ?_
    refine ⟨?_, ?_⟩
    · exact hb
    · exact q
  have w124 : ∀ b h9, xFix h9 → (0 ≤ b ∧ b ≤ 1) → Q (xI b) h9 → xwp G m_QuestionReader_takes (d + 11) 124 [xZ, xZ] [xI b] h9 Q X := fun b h9 F9 hb q => by
    refine v_QuestionReader_takes_124 F9 ?_
    refine ⟨?_, ?_⟩
    · exact hb
    · exact q
  have w145 : ∀ b h9, xFix h9 → (0 ≤ b ∧ b ≤ 1) → Q (xI b) h9 → xwp G m_QuestionReader_takes (d + 11) 145 [xZ, xZ] [xI b] h9 Q X := fun b h9 F9 hb q => by
    refine v_QuestionReader_takes_145 F9 ?_
    refine ⟨?_, ?_⟩
    · exact hb
    · exact q
  have w173 : ∀ b h9, xFix h9 → (0 ≤ b ∧ b ≤ 1) → Q (xI b) h9 → xwp G m_QuestionReader_takes (d + 11) 173 [xZ, xZ] [xI b] h9 Q X := fun b h9 F9 hb q => by
    refine v_QuestionReader_takes_173 F9 ?_
    refine ⟨?_, ?_⟩
    · exact hb
    · exact q
  have w192 : ∀ b h9, xFix h9 → (0 ≤ b ∧ b ≤ 1) → Q (xI b) h9 → xwp G m_QuestionReader_takes (d + 11) 192 [xZ, xZ] [xI b] h9 Q X := fun b h9 F9 hb q => by
    refine v_QuestionReader_takes_192 F9 ?_
    refine ⟨?_, ?_⟩
    · exact hb
    · exact q
  have w197 : ∀ b h9, xFix h9 → (0 ≤ b ∧ b ≤ 1) → Q (xI b) h9 → xwp G m_QuestionReader_takes (d + 11) 197 [xZ, xZ] [xI b] h9 Q X := fun b h9 F9 hb q => by
    refine v_QuestionReader_takes_197 F9 ?_
    refine ⟨?_, ?_⟩
    · exact hb
    · exact q
  have w202 : ∀ b h9, xFix h9 → (0 ≤ b ∧ b ≤ 1) → Q (xI b) h9 → xwp G m_QuestionReader_takes (d + 11) 202 [xZ, xZ] [xI b] h9 Q X := fun b h9 F9 hb q => by
    refine v_QuestionReader_takes_202 F9 ?_
    refine ⟨?_, ?_⟩
    · exact hb
    · exact q
  refine v_QuestionReader_takes_0 F ?_
  refine ⟨fun q1 => ?_, fun q1 => ?_, fun q1 => ?_, fun q1 => ?_, fun q1 => ?_, fun q1 => ?_, fun q1 => ?_, fun q1 => ?_, fun q1 => ?_, fun q1 => ?_, fun q1 => ?_, fun q1 => ?_⟩
  · refine ⟨fun q2 => ?_, fun q2 => ?_⟩
    · refine ⟨?_, ?_⟩
      · exact A.ok
      · refine ⟨fun q3 => ?_, fun q3 => ?_⟩
        · rw [h10] at q1
          rw [f1] at q2
          have e : tkF bs s r = some r := by unfold tkF; rw [if_pos q1, if_pos ⟨of_decide_eq_true q2, List.length_eq_zero_iff.mp (by omega)⟩]
          rw [e] at hq
          exact same hq
        · rw [h10] at q1
          have e : tkF bs s r = none := by unfold tkF; rw [if_pos q1, if_neg (fun y => by rw [y.2] at hsz; exact q3 hsz)]
          exact hq.1 e
    · rw [h10] at q1
      rw [f1] at q2
      have e : tkF bs s r = none := by unfold tkF; rw [if_pos q1, if_neg (fun y => q2 (decide_eq_true y.1))]
      exact hq.1 e
  · rw [h10] at q1
    have e : tkF bs s r = tkR bs s r := by unfold tkF; rw [if_neg (by omega), if_pos (by omega)]
    rw [e] at hq
    exact s_QR_takesRun B RF I (by omega) q1 s0 (RA q1) h9 h8 (h11 q1) hc hs (hq.map F w109)
  · rw [h10] at q1
    have e : tkF bs s r = tkQ r := by unfold tkF; rw [if_neg (by omega), if_neg (by omega), if_neg (by omega), if_pos (by omega)]
    rw [e] at hq
    exact s_QR_takesQuote B RF I (by omega) h8l hc hs (hq.map F w119)
  · rw [h10] at q1
    have e : tkF bs s r = tkO r := by unfold tkF; rw [if_neg (by omega), if_neg (by omega), if_neg (by omega), if_neg (by omega), if_neg (by omega), if_neg (by omega), if_neg (by omega), if_neg (by omega), if_pos (by omega)]
    rw [e] at hq
    exact s_QR_takesOpening B RF I (by omega) h8l hc hs (hq.map F w197)
  · rw [h10] at q1
    have e : tkF bs s r = tkC r := by unfold tkF; rw [if_neg (by omega), if_neg (by omega), if_neg (by omega), if_neg (by omega), if_neg (by omega), if_neg (by omega), if_neg (by omega), if_neg (by omega), if_neg (by omega), if_pos (by omega)]
    rw [e] at hq
    exact s_QR_takesClosing B RF I h8l (hq.map F w202)
  · rw [h10] at q1
    have e : tkF bs s r = (if r.1.1 = 8 then some (stF (sdF r 5 1) 10) else none) := by unfold tkF; rw [if_neg (by omega), if_neg (by omega), if_neg (by omega), if_neg (by omega), if_pos (by omega)]
    rw [e] at hq
    exact s_QR_takesStar B RF I h8l (hq.map F w124)
  · rw [h10] at q1
    have e : tkF bs s r = tkS r (xpl h 32 10) := by rw [h10]; unfold tkF; rw [if_neg (by omega), if_neg (by omega), if_pos (by omega)]
    rw [e] at hq
    exact s_QR_takesSign B RF h8l (hq.map F w114)
  · rw [h10] at q1
    have e : tkF bs s r = tkS r (xpl h 32 10) := by rw [h10]; unfold tkF; rw [if_neg (by omega), if_neg (by omega), if_pos (by omega)]
    rw [e] at hq
    exact s_QR_takesSign B RF h8l (hq.map F w114)
  · refine ⟨fun q2 => ?_, fun q2 => ?_⟩
    · rw [f1] at q2
      rw [h10] at q1
      have e : tkF bs s r = if (1 : Int) = 1 then some (stF r 2) else none := by unfold tkF; rw [if_neg (by omega), if_neg (by omega), if_neg (by omega), if_neg (by omega), if_neg (by omega), if_neg (by omega), if_neg (by omega), if_pos (by omega)]; rw [if_pos q2, if_pos rfl]
      rw [e] at hq
      exact s_QR_moves B RF h8l (by omega) (by omega) (by decide) (hq.map F w192)
    · rw [f1] at q2
      rw [h10] at q1
      have e : tkF bs s r = if (0 : Int) = 1 then some (stF r 2) else none := by unfold tkF; rw [if_neg (by omega), if_neg (by omega), if_neg (by omega), if_neg (by omega), if_neg (by omega), if_neg (by omega), if_neg (by omega), if_pos (by omega)]; rw [if_neg q2, if_neg (by decide)]
      rw [e] at hq
      exact s_QR_moves B RF h8l (by omega) (by omega) (by decide) (hq.map F w192)
  · refine ⟨fun q2 => ?_, fun q2 => ?_⟩
    · refine ⟨fun q3 => ?_, fun q3 => ?_⟩
      · rw [f1] at q3
        rw [h10] at q1
        have e : tkF bs s r = if (0 : Int) = 1 then some (stF r 7) else none := by unfold tkF; rw [if_neg (by omega), if_neg (by omega), if_neg (by omega), if_neg (by omega), if_neg (by omega), if_neg (by omega), if_pos (by omega)]; rw [if_neg (fun y => y.2 q3), if_neg (by decide)]
        rw [e] at hq
        exact s_QR_moves B RF h8l (by omega) (by omega) (by decide) (hq.map F w173)
      · rw [f1] at q2 q3
        rw [h10] at q1
        have e : tkF bs s r = if (1 : Int) = 1 then some (stF r 7) else none := by unfold tkF; rw [if_neg (by omega), if_neg (by omega), if_neg (by omega), if_neg (by omega), if_neg (by omega), if_neg (by omega), if_pos (by omega)]; rw [if_pos ⟨of_decide_eq_true q2, q3⟩, if_pos rfl]
        rw [e] at hq
        exact s_QR_moves B RF h8l (by omega) (by omega) (by decide) (hq.map F w173)
    · rw [f1] at q2
      rw [h10] at q1
      have e : tkF bs s r = if (0 : Int) = 1 then some (stF r 7) else none := by unfold tkF; rw [if_neg (by omega), if_neg (by omega), if_neg (by omega), if_neg (by omega), if_neg (by omega), if_neg (by omega), if_pos (by omega)]; rw [if_neg (fun y => q2 (decide_eq_true y.1)), if_neg (by decide)]
      rw [e] at hq
      exact s_QR_moves B RF h8l (by omega) (by omega) (by decide) (hq.map F w173)
  · refine ⟨fun q2 => ?_, fun q2 => ?_⟩
    · rw [f1] at q2
      rw [h10] at q1
      have e : tkF bs s r = if (1 : Int) = 1 then some (stF r 6) else none := by unfold tkF; rw [if_neg (by omega), if_neg (by omega), if_neg (by omega), if_neg (by omega), if_neg (by omega), if_pos (by omega)]; rw [if_pos q2, if_pos rfl]
      rw [e] at hq
      exact s_QR_moves B RF h8l (by omega) (by omega) (by decide) (hq.map F w145)
    · rw [f1] at q2
      rw [h10] at q1
      have e : tkF bs s r = if (0 : Int) = 1 then some (stF r 6) else none := by unfold tkF; rw [if_neg (by omega), if_neg (by omega), if_neg (by omega), if_neg (by omega), if_neg (by omega), if_pos (by omega)]; rw [if_neg q2, if_neg (by decide)]
      rw [e] at hq
      exact s_QR_moves B RF h8l (by omega) (by omega) (by decide) (hq.map F w145)
  · simp only [h10] at q1
    have e : tkF bs s r = none := by unfold tkF; rw [if_neg (by omega), if_neg (by omega), if_neg (by omega), if_neg (by omega), if_neg (by omega), if_neg (by omega), if_neg (by omega), if_neg (by omega), if_neg (by omega), if_neg (by omega)]
    exact hq.1 e

end
