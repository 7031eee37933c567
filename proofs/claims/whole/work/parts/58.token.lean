/-! ===== token ===== -/
section
theorem d_Tape_runBytes_0 : decode prog_9_method_7_code 0 = .ok (.aload_n 0, 1) := by decide +kernel
theorem d_Tape_runBytes_1 : decode prog_9_method_7_code 1 = .ok (.getfield 29, 3) := by decide +kernel
theorem d_Tape_runBytes_4 : decode prog_9_method_7_code 4 = .ok (.aload_n 0, 1) := by decide +kernel
theorem d_Tape_runBytes_5 : decode prog_9_method_7_code 5 = .ok (.getfield 26, 3) := by decide +kernel
theorem d_Tape_runBytes_8 : decode prog_9_method_7_code 8 = .ok (.isub, 1) := by decide +kernel
theorem d_Tape_runBytes_9 : decode prog_9_method_7_code 9 = .ok (.ireturn, 1) := by decide +kernel
theorem v_Tape_runBytes_0 {G : XG} {d : Nat} {h : XH} {Q : XV → XH → Prop} {X : Nat → XH → Prop} (F : xFix h) (hyp : xiR ((xpl h 1 5) - (xpl h 1 4)) ∧ (Q (xI ((xpl h 1 5) - (xpl h 1 4))) h)) : xwp G m_Tape_runBytes (d + 1) 0 [xR 1] [] h Q X := by
  have hnx9 : (93 : Int) ≤ xnx h := F.2.2
  refine xr_aload_n (pc := 0) (i := 0) (hI := d_Tape_runBytes_0) (hi := rfl) (hl := rfl) ?_
  refine xg_getf (pc := 1) (ci := 8) (k := 5) (N := 7) (v9 := 0) (v := (xpl h 1 5)) (T := xF8) (hI := d_Tape_runBytes_1) (hw := w_61) rfl xi8 (Or.inl rfl) (Nat.le_of_ble_eq_true rfl) (Nat.le_of_ble_eq_true rfl) rfl (ft_1 F) rfl (fun f1_ => ?_)
  replace f1_ : -2147483648 ≤ (xpl h 1 5) ∧ (xpl h 1 5) ≤ 2147483647 := f1_
  refine xr_aload_n (pc := 4) (i := 0) (hI := d_Tape_runBytes_4) (hi := rfl) (hl := rfl) ?_
  refine xg_getf (pc := 5) (ci := 8) (k := 4) (N := 7) (v9 := 0) (v := (xpl h 1 4)) (T := xF8) (hI := d_Tape_runBytes_5) (hw := w_60) rfl xi8 (Or.inl rfl) (Nat.le_of_ble_eq_true rfl) (Nat.le_of_ble_eq_true rfl) rfl (ft_1 F) rfl (fun f2_ => ?_)
  replace f2_ : -2147483648 ≤ (xpl h 1 4) ∧ (xpl h 1 4) ≤ 2147483647 := f2_
  obtain ⟨c9, hyp⟩ := hyp
  refine xr_isub (pc := 8) (hI := d_Tape_runBytes_8) (hr := c9) ?_
  refine xr_ireturn (S := []) (pc := 9) (hI := d_Tape_runBytes_9) (hr := rfl) ?_
  exact hyp
theorem p_Tape_runBytes {G : XG} {d : Nat} {h : XH} {Q : XV → XH → Prop} {X : Nat → XH → Prop} (F : xFix h) (h0 : xiR (xpl h 1 5 - xpl h 1 4)) (hq : Q (xI (xpl h 1 5 - xpl h 1 4)) h) : xwp G m_Tape_runBytes (d + 1) 0 [xR 1] [] h Q X := by
  refine v_Tape_runBytes_0 F ?_
  refine ⟨?_, ?_⟩
  · exact h0
  · exact hq
/-- a token from the place s on: the place behind it, what it is, its word -/
def ntA (bs : List Int) (s : Int) : Int := if lat bs s = -1 then s else if sgn (lat bs s) = 0 then s + 1 else re bs s bs.length
def ntT (bs : List Int) (s : Int) : Int := if lat bs s = -1 then 0 else if sgn (lat bs s) = 0 then (if tsF (lat bs s) = true then lat bs s else 2) else if re bs s bs.length - s ≤ 20 then 1 else 2
def ntW (bs : List Int) (s w : Int) : Int := if lat bs s = -1 then w else if sgn (lat bs s) = 0 then w else if smallL (runL bs s (re bs s bs.length)) = true then 0 else rwL (runL bs s (re bs s bs.length))
/-- the run that the tape's reader stands at -/
def RunAt (h : XH) (bs : List Int) (s : Int) : Prop := RunL h (runL bs s (re bs s bs.length)) ∧ xpl h 1 4 = s ∧ xpl h 1 5 = re bs s bs.length
theorem RunL.keep {h h' : XH} {ls : List Int} (R : RunL h ls) (e1 : ∀ k, xpl h' 1 k = xpl h 1 k) (e4 : ∀ k, xpl h' 4 k = xpl h 4 k) : RunL h' ls := ⟨(e1 6).trans R.1, R.2.1, fun i hi => by rw [e4]; exact R.2.2 i hi⟩
def NTW : Int → Prop := fun c => c = 32 ∨ TPC c
theorem s_QR_nextToken {G : XG} {d : Nat} {h : XH} {Q : XV → XH → Prop} {X : Nat → XH → Prop} {p : Int} {bs : List Int} (F : xFix h) (R : TapeR h bs) (hp : xpl h 32 8 = p) (h0 : 0 ≤ p) (h1 : p ≤ bs.length)
    (hq : ∀ h', xFix h' → xsm NTW h h' → TapeR h' bs → (∀ k, k ≠ 8 → k ≠ 9 → k ≠ 10 → k ≠ 11 → xpl h' 32 k = xpl h 32 k) → xpl h' 32 9 = sb bs p → xpl h' 32 8 = ntA bs (sb bs p) → xpl h' 32 10 = ntT bs (sb bs p) → xpl h' 32 11 = ntW bs (sb bs p) (xpl h 32 11) → (¬ lat bs (sb bs p) = -1 → ¬ sgn (lat bs (sb bs p)) = 0 → RunAt h' bs (sb bs p)) → xnx h' = xnx h → xsl h' = xsl h → Q xN h') : xwp G m_QuestionReader_nextToken (d + 9) 0 [xR 32, xR 1, xZ] [] h Q X := by
  have hb := R.2.1
  have hs := sb_rng (p := p) h1
  obtain ⟨s, hsd⟩ : ∃ s, s = sb bs p := ⟨_, rfl⟩
  rw [← hsd] at hq hs
  refine v_QuestionReader_nextToken_0 F ?_
  refine s_QR_skipBlanks F R hp h0 h1 (fun h2 F2 S2 e2 p2 R2 n2 l2 => ?_)
  rw [← hsd] at p2
  have tp9 : ∀ v x, tpa (xst h2 32 9 v) x = tpa h2 x := fun v x => by
    unfold tpa
    have a1 : xpl (xst h2 32 9 v) 1 3 = xpl h2 1 3 := by rw [xpl_st, if_neg (by omega)]
    have a2 : xpl (xst h2 32 9 v) 2 x = xpl h2 2 x := by rw [xpl_st, if_neg (by omega)]
    rw [a1, a2]
  have S2' : xsm NTW h h2 := S2.mono (fun c _ w => Or.inl w)
  have hat := R2.at s
  have kp : ∀ H : XH, (∀ c k, c ≠ 32 → xpl H c k = xpl h2 c k) → TapeR H bs := fun H hH => R2.keep (hH 1 3 (by decide)) (fun k => hH 2 k (by decide))
  refine v_QuestionReader_nextToken_5 F2 ?_
  refine ⟨fun q1 => ?_, fun q1 => ?_⟩
  · intro F9
    rw [tp9, p2, hat] at q1
    rw [p2] at F9 ⊢
    refine hq _ F9 (S2'.trans (xsm.trans (xs1 (C := NTW) (k := 9) (Or.inl rfl)) (xs1 (C := NTW) (k := 10) (Or.inl rfl)))) (kp _ (fun c k hc => by rw [xpl_st, if_neg (fun y => hc y.1), xpl_st, if_neg (fun y => hc y.1)])) (fun k k8 k9 k10 k11 => ?_) ?_ ?_ ?_ ?_ (fun y => absurd q1 y) n2 l2
    · rw [xpl_st, if_neg (by omega), xpl_st, if_neg (by omega)]; exact e2 k k8
    · rw [xpl_st, if_neg (by omega), xpl_st, if_pos ⟨rfl, rfl⟩]
    · rw [xpl_st, if_neg (by omega), xpl_st, if_neg (by omega), p2]; unfold ntA; rw [if_pos q1]
    · rw [xpl_st, if_pos ⟨rfl, rfl⟩]; unfold ntT; rw [if_pos q1]
    · rw [xpl_st, if_neg (by omega), xpl_st, if_neg (by omega), e2 11 (by decide)]; unfold ntW; rw [if_pos q1]
  · refine ⟨fun q2 => ?_, fun q2 => ?_⟩
    · refine ⟨?_, ?_⟩
      · first | exact ⟨by omega, by omega⟩ | omega
      · refine ⟨fun q3 => ?_, fun q3 => ?_⟩
        · intro F9
          rw [tp9, p2, hat] at q1 q2 q3 F9
          rw [tp9, p2, hat]
          refine hq _ F9 (S2'.trans (xsm.trans (xsm.trans (xs1 (C := NTW) (k := 9) (Or.inl rfl)) (xs1 (C := NTW) (k := 8) (Or.inl rfl))) (xs1 (C := NTW) (k := 10) (Or.inl rfl)))) (kp _ (fun c k hc => by rw [xpl_st, if_neg (fun y => hc y.1), xpl_st, if_neg (fun y => hc y.1), xpl_st, if_neg (fun y => hc y.1)])) (fun k k8 k9 k10 k11 => ?_) ?_ ?_ ?_ ?_ (fun _ y => absurd q2 y) n2 l2
          · rw [xpl_st, if_neg (by omega), xpl_st, if_neg (by omega), xpl_st, if_neg (by omega)]; exact e2 k k8
          · rw [xpl_st, if_neg (by omega), xpl_st, if_neg (by omega), xpl_st, if_pos ⟨rfl, rfl⟩]
          · rw [xpl_st, if_neg (by omega), xpl_st, if_pos ⟨rfl, rfl⟩]; unfold ntA; rw [if_neg q1, if_pos q2]
          · rw [xpl_st, if_pos ⟨rfl, rfl⟩]; unfold ntT; rw [if_neg q1, if_pos q2, if_pos q3]
          · rw [xpl_st, if_neg (by omega), xpl_st, if_neg (by omega), xpl_st, if_neg (by omega), e2 11 (by decide)]; unfold ntW; rw [if_neg q1, if_pos q2]
        · intro F9
          rw [tp9, p2, hat] at q1 q2 q3
          rw [p2] at F9 ⊢
          refine hq _ F9 (S2'.trans (xsm.trans (xsm.trans (xs1 (C := NTW) (k := 9) (Or.inl rfl)) (xs1 (C := NTW) (k := 8) (Or.inl rfl))) (xs1 (C := NTW) (k := 10) (Or.inl rfl)))) (kp _ (fun c k hc => by rw [xpl_st, if_neg (fun y => hc y.1), xpl_st, if_neg (fun y => hc y.1), xpl_st, if_neg (fun y => hc y.1)])) (fun k k8 k9 k10 k11 => ?_) ?_ ?_ ?_ ?_ (fun _ y => absurd q2 y) n2 l2
          · rw [xpl_st, if_neg (by omega), xpl_st, if_neg (by omega), xpl_st, if_neg (by omega)]; exact e2 k k8
          · rw [xpl_st, if_neg (by omega), xpl_st, if_neg (by omega), xpl_st, if_pos ⟨rfl, rfl⟩]
          · rw [xpl_st, if_neg (by omega), xpl_st, if_pos ⟨rfl, rfl⟩]; unfold ntA; rw [if_neg q1, if_pos q2]
          · rw [xpl_st, if_pos ⟨rfl, rfl⟩]; unfold ntT; rw [if_neg q1, if_pos q2, if_neg q3]
          · rw [xpl_st, if_neg (by omega), xpl_st, if_neg (by omega), xpl_st, if_neg (by omega), e2 11 (by decide)]; unfold ntW; rw [if_neg q1, if_pos q2]
    · intro F9
      rw [tp9, p2, hat] at q1 q2
      have hlt : s < bs.length := by
        by_cases z : s < bs.length
        · exact z
        · exact absurd (lat_out (Or.inr (by omega))) q1
      have hl := R2.1
      rw [p2, hl] at *
      obtain ⟨H2, hH2⟩ : ∃ H2, H2 = xst h2 32 9 s := ⟨_, rfl⟩
      rw [← hH2] at F9 ⊢
      have kH2 : ∀ c k, c ≠ 32 → xpl H2 c k = xpl h2 c k := fun c k hc => by rw [hH2, xpl_st, if_neg (fun y => hc y.1)]
      have SH2 : xsm NTW h2 H2 := by rw [hH2]; exact xs1 (C := NTW) (k := 9) (Or.inl rfl)
      have nH2 : xnx H2 = xnx h2 := by rw [hH2]; rfl
      have lH2 : xsl H2 = xsl h2 := by rw [hH2]; rfl
      have hnx := F9.nx
      refine s_Tape_seekRun F9 (kp H2 kH2) (by omega) (by omega) (Int.le_refl _) (fun h3 s3 e3 hs3 he3 F3 S3 n3 l3 R3 p34 p35 RL k33 => ?_)
      rw [rs_here bs hlt q2] at hs3
      subst hs3
      have her := re_rng bs (i := s3) (lim := bs.length) (by omega)
      rw [← he3] at her
      have k3 : ∀ k, xpl h3 32 k = xpl H2 32 k := fun k => S3.pl (by omega) (fun w => by unfold TPC at w; omega) k
      have base32 : ∀ k, k ≠ 8 → k ≠ 9 → xpl h3 32 k = xpl h 32 k := fun k k8 k9 => by rw [k3, hH2, xpl_st, if_neg (fun y => k9 y.2)]; exact e2 k k8
      refine v_QuestionReader_nextToken_54 F3 ?_
      intro F9
      rw [p35] at F9 ⊢
      obtain ⟨H4, hH4⟩ : ∃ H4, H4 = xst h3 32 8 e3 := ⟨_, rfl⟩
      rw [← hH4] at F9 ⊢
      have kH4 : ∀ c k, c ≠ 32 → xpl H4 c k = xpl h3 c k := fun c k hc => by rw [hH4, xpl_st, if_neg (fun y => hc y.1)]
      have nH4 : xnx H4 = xnx h3 := by rw [hH4]; rfl
      have lH4 : xsl H4 = xsl h3 := by rw [hH4]; rfl
      have e45 : xpl H4 1 5 = e3 := by rw [kH4 1 5 (by decide)]; exact p35
      have e44 : xpl H4 1 4 = s3 := by rw [kH4 1 4 (by decide)]; exact p34
      have SH4 : xsm NTW h3 H4 := by rw [hH4]; exact xs1 (C := NTW) (k := 8) (Or.inl rfl)
      refine p_Tape_runBytes F9 (by rw [e45, e44]; exact ⟨by omega, by omega⟩) ?_
      rw [e45, e44]
      have fin : ∀ t, t = (if e3 - s3 ≤ 20 then (1 : Int) else 2) → xwp G m_QuestionReader_nextToken (d + 9) 78 [xR 32, xR 1, xZ] [xI t, xR 32] H4 Q X := by
        intro t ht
        have RL4 : ∀ H, (∀ c k, c ≠ 32 → xpl H c k = xpl h3 c k) → RunL H (runL bs s3 e3) := fun H hH => RL.keep (fun k => hH 1 k (by decide)) (fun k => hH 4 k (by decide))
        have kH5 : ∀ c k, c ≠ 32 → xpl (xst H4 32 10 t) c k = xpl h3 c k := fun c k hc => by rw [xpl_st, if_neg (fun y => hc y.1)]; exact kH4 c k hc
        have F5 : xFix (xst H4 32 10 t) → True := fun _ => trivial
        have wrap : ∀ v, xFix (xst (xst H4 32 10 t) 32 11 v) → v = (if smallL (runL bs s3 e3) = true then 0 else rwL (runL bs s3 e3)) → Q xN (xst (xst H4 32 10 t) 32 11 v) := by
          intro v F6 hv
          have kH6 : ∀ c k, c ≠ 32 → xpl (xst (xst H4 32 10 t) 32 11 v) c k = xpl h3 c k := fun c k hc => by rw [xpl_st, if_neg (fun y => hc y.1)]; exact kH5 c k hc
          refine hq _ F6 ((((S2'.trans SH2).trans (S3.mono (fun c _ w => Or.inr w))).trans SH4).trans (xsm.trans (xs1 (C := NTW) (k := 10) (Or.inl rfl)) (xs1 (C := NTW) (k := 11) (Or.inl rfl)))) (R3.keep (kH6 1 3 (by decide)) (fun k => kH6 2 k (by decide))) (fun k k8 k9 k10 k11 => ?_) ?_ ?_ ?_ ?_ (fun _ _ => ⟨?_, ?_, ?_⟩) ?_ ?_
          · rw [xpl_st, if_neg (by omega), xpl_st, if_neg (by omega), hH4, xpl_st, if_neg (by omega)]; exact base32 k k8 k9
          · rw [xpl_st, if_neg (by omega), xpl_st, if_neg (by omega), hH4, xpl_st, if_neg (by omega), k3, hH2, xpl_st, if_pos ⟨rfl, rfl⟩]
          · rw [xpl_st, if_neg (by omega), xpl_st, if_neg (by omega), hH4, xpl_st, if_pos ⟨rfl, rfl⟩, he3]; unfold ntA; rw [if_neg q1, if_neg q2]
          · rw [xpl_st, if_neg (by omega), xpl_st, if_pos ⟨rfl, rfl⟩, ht, he3]; unfold ntT; rw [if_neg q1, if_neg q2]
          · rw [xpl_st, if_pos ⟨rfl, rfl⟩, hv, he3]; unfold ntW; rw [if_neg q1, if_neg q2]
          · rw [← he3]; exact RL4 _ kH6
          · rw [kH6 1 4 (by decide)]; exact p34
          · rw [kH6 1 5 (by decide), ← he3]; exact p35
          · exact nH4.trans (n3.trans (nH2.trans n2))
          · exact lH4.trans (l3.trans (lH2.trans l2))
        have RL5 := RL4 (xst H4 32 10 t) kH5
        have F5' : xFix (xst H4 32 10 t) := F9.stT (t := 6) (by decide) (ft_32 F9) (by decide +kernel)
        refine v_QuestionReader_nextToken_78 F9 ?_
        refine ⟨?_, ?_⟩
        · exact RL5.kp
        · refine ⟨fun q1 => ?_, fun q1 => ?_⟩
          · intro F9
            rw [RL5.small F5'] at q1
            exact wrap 0 F9 (by rw [if_pos q1])
          · intro F9
            rw [RL5.small F5'] at q1
            exact wrap _ F9 (by rw [if_neg q1]; exact RL5.rw F5')
      refine v_QuestionReader_nextToken_68 F9 ?_
      refine ⟨fun q1 => ?_, fun q1 => ?_⟩
      · exact fin 1 (by rw [if_pos q1])
      · exact fin 2 (by rw [if_neg q1])

end
