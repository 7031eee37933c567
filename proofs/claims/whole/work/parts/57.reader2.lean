/-! ===== reader2 ===== -/
section
def sbF (bs : List Int) : Nat → Int → Int
  | 0, p => p
  | n + 1, p => if lat bs p = 32 then sbF bs n (p + 1) else p
/-- the place behind blanks -/
def sb (bs : List Int) (p : Int) : Int := sbF bs (bs.length - p).toNat p
theorem sbF_rng (bs : List Int) : ∀ (n : Nat) (p : Int), p ≤ sbF bs n p ∧ sbF bs n p ≤ p + n := by
  intro n
  induction n with
  | zero => intro p; exact ⟨Int.le_refl _, by show p ≤ p + ((0 : Nat) : Int); omega⟩
  | succ n ih =>
    intro p
    have e : sbF bs (n + 1) p = if lat bs p = 32 then sbF bs n (p + 1) else p := rfl
    rw [e]
    split
    · have := ih (p + 1); omega
    · omega
theorem sb_rng {bs : List Int} {p : Int} (h : p ≤ bs.length) : p ≤ sb bs p ∧ sb bs p ≤ bs.length := by
  have := sbF_rng bs (bs.length - p).toNat p
  unfold sb
  omega
theorem s_QR_skipBlanks {G : XG} {d : Nat} {h : XH} {Q : XV → XH → Prop} {X : Nat → XH → Prop} {p : Int} {bs : List Int} (F : xFix h) (R : TapeR h bs) (hp : xpl h 32 8 = p) (h0 : 0 ≤ p) (h1 : p ≤ bs.length)
    (hq : ∀ h', xFix h' → xsm (fun c => c = 32) h h' → (∀ k, k ≠ 8 → xpl h' 32 k = xpl h 32 k) → xpl h' 32 8 = sb bs p → TapeR h' bs → xnx h' = xnx h → xsl h' = xsl h → Q xN h') : xwp G m_QuestionReader_skipBlanks (d + 2) 0 [xR 32, xR 1] [] h Q X := by
  have hl4 := R.2.1
  have loop : ∀ (n : Nat) (p2 : Int) (h2 : XH), p2 + n = bs.length → 0 ≤ p2 → xpl h2 32 8 = p2 → xFix h2 → xsm (fun c => c = 32) h h2 → (∀ k, k ≠ 8 → xpl h2 32 k = xpl h 32 k) → TapeR h2 bs → sbF bs n p2 = sb bs p → xnx h2 = xnx h → xsl h2 = xsl h → xwp G m_QuestionReader_skipBlanks (d + 2) 0 [xR 32, xR 1] [] h2 Q X := by
    intro n
    induction n with
    | zero =>
      intro p2 h2 e g0 hp2 F2 S2 e2 R2 hv n2 l2
      have hl := R2.1
      have hv2 : p2 = sb bs p := hv
      refine v_QuestionReader_skipBlanks_0 F2 ?_
      refine ⟨fun q1 => ?_, fun q1 => ?_⟩
      · exact hq h2 F2 S2 e2 (hp2.trans hv2) R2 n2 l2
      · refine ⟨fun q2 => ?_, fun q2 => ?_⟩
        · intro F9
          omega
        · omega
    | succ n ih =>
      intro p2 h2 e g0 hp2 F2 S2 e2 R2 hv n2 l2
      have hl := R2.1
      have hat := R2.at p2
      have hv2 : (if lat bs p2 = 32 then sbF bs n (p2 + 1) else p2) = sb bs p := hv
      refine v_QuestionReader_skipBlanks_0 F2 ?_
      refine ⟨fun q1 => ?_, fun q1 => ?_⟩
      · omega
      · refine ⟨fun q2 => ?_, fun q2 => ?_⟩
        · intro F9
          rw [hp2, hat] at q2
          rw [if_pos q2] at hv2
          rw [hp2] at F9 ⊢
          refine ih (p2 + 1) _ (by omega) (by omega) (by rw [xpl_st, if_pos ⟨rfl, rfl⟩]) F9 (S2.st (by decide) (Or.inl rfl)) (fun k hk => by rw [xpl_st, if_neg (fun y => hk y.2)]; exact e2 k hk) (R2.keep (by rw [xpl_st, if_neg (by omega)]) (fun k => by rw [xpl_st, if_neg (by omega)])) hv2 n2 l2
        · rw [hp2, hat] at q2
          rw [if_neg q2] at hv2
          exact hq h2 F2 S2 e2 (hp2.trans hv2) R2 n2 l2
  exact loop (bs.length - p).toNat p h (by omega) h0 hp F (xsm.refl h) (fun _ _ => rfl) R rfl rfl rfl
theorem s_QR_isColonNext {G : XG} {d : Nat} {h : XH} {Q : XV → XH → Prop} {X : Nat → XH → Prop} {p : Int} {bs : List Int} (F : xFix h) (R : TapeR h bs) (hp : xpl h 32 8 = p) (h0 : 0 ≤ p) (h1 : p ≤ bs.length)
    (hq : ∀ h', xFix h' → xsm (fun c => c = 32) h h' → (∀ k, k ≠ 8 → xpl h' 32 k = xpl h 32 k) → xpl h' 32 8 = sb bs p → TapeR h' bs → xnx h' = xnx h → xsl h' = xsl h → Q (xI (b2i (decide (lat bs (sb bs p) = 58)))) h') : xwp G m_QuestionReader_isColonNext (d + 3) 0 [xR 32, xR 1] [] h Q X := by
  refine v_QuestionReader_isColonNext_0 F ?_
  refine s_QR_skipBlanks F R hp h0 h1 (fun h2 F2 S2 e2 p2 R2 n2 l2 => ?_)
  have q9 := hq h2 F2 S2 e2 p2 R2 n2 l2
  have hat := R2.at (sb bs p)
  refine v_QuestionReader_isColonNext_5 F2 ?_
  refine ⟨fun q1 => ?_, fun q1 => ?_⟩
  · rw [p2, hat] at q1
    rw [decide_eq_true q1] at q9; exact q9
  · rw [p2, hat] at q1
    rw [decide_eq_false q1] at q9; exact q9

end
