/-! ===== look ===== -/
section
/-- what a part of a question holds at all times -/
def PTok (t : PT) : Prop := (0 ≤ t.1 0 ∧ t.1 0 < 40) ∧ (t.1 1 = 0 ∨ t.1 1 = 43 ∨ t.1 1 = 45) ∧ (0 ≤ t.1 2 ∧ t.1 2 ≤ 2) ∧ (0 ≤ t.1 5 ∧ t.1 5 ≤ 3) ∧ (0 ≤ t.1 6 ∧ t.1 6 ≤ 99) ∧ (0 ≤ t.1 7 ∧ t.1 7 ≤ 99) ∧ (0 ≤ t.1 9 ∧ t.1 9 ≤ 1000) ∧ (0 ≤ t.1 10 ∧ t.1 10 ≤ 40) ∧ t.2.length ≤ 40
def lookF (pt : PT) (row : List Int) (t : MR) : MR :=
  if pt.1 5 = 0 then scF (fun k => decide (rwA row k = fwL pt.2)) row.length 0 t
  else if pt.1 5 = 1 then scF (fun k => bgw (rwA row k) (pt.1 8) (pt.1 9)) row.length 0 t
  else if pt.1 5 = 2 then (if pt.1 7 = 0 then scF (fun k => phA row pt.2 k) row.length 0 t else neF pt.2 row (pt.1 7 + pt.2.length - 1).toNat (fwL pt.2) row.length 0 0 t)
  else t
theorem s_Match_look {G : XG} {d : Nat} {h : XH} {Q : XV → XH → Prop} {X : Nat → XH → Prop} {p r : Int} {row : List Int} {pt : PT} {t : MR} (F : xFix h) (PR : PartR h p pt) (ok : PTok pt) (R : RowOK h r row) (T : MatT h t) (h0 : 0 ≤ t.1) (h1 : t.1 + row.length ≤ 5000)
    (hq : ∀ h', xFix h' → xsm MTW h h' → MatT h' (lookF pt row t) → xnx h' = xnx h → xsl h' = xsl h → Q xN h') : xwp G m_Match_look (d + 4) 0 [xR 45, xR p, xR r] [] h Q X := by
  obtain ⟨o0, o1, o2, o5, o6, o7, o9, o10, ol⟩ := ok
  have e5 := PR.2.1 5 (by decide) (by decide) (by decide)
  have e7 := PR.2.1 7 (by decide) (by decide) (by decide)
  unfold lookF at hq
  refine v_Match_look_0 F ?_
  refine ⟨?_, ?_⟩
  · exact PR.1.2.2
  · refine ⟨fun q1 => ?_, fun q1 => ?_, fun q1 => ?_, fun q1 => ?_⟩
    · rw [if_neg (by omega), if_neg (by omega), if_neg (by omega)] at hq
      exact hq h F (xsm.refl h) T rfl rfl
    · rw [if_pos (by omega)] at hq
      refine p_Part_firstWord F PR ?_
      refine v_Match_look_37 F ?_
      refine ⟨?_, ?_⟩
      · exact ft_45 F
      · refine s_Match_lookForWord F R T h0 (by omega) (fun h3 F3 S3 T3 n3 l3 => ?_)
        refine v_Match_look_41 F3 ?_
        exact hq h3 F3 S3.t47 T3 n3 l3
    · rw [if_neg (by omega), if_pos (by omega)] at hq
      refine s_Match_lookForBeginning F PR R T h0 (by omega) (by omega) (fun h3 F3 S3 T3 n3 l3 => ?_)
      refine v_Match_look_50 F3 ?_
      exact hq h3 F3 S3.t47 T3 n3 l3
    · refine ⟨fun q2 => ?_, fun q2 => ?_⟩
      · rw [if_neg (by omega), if_neg (by omega), if_pos (by omega), if_pos (by omega)] at hq
        refine s_Match_lookForPhrase F PR.2.2 R T h0 (by omega) (fun h3 F3 S3 T3 n3 l3 => ?_)
        refine v_Match_look_69 F3 ?_
        exact hq h3 F3 S3.t47 T3 n3 l3
      · rw [if_neg (by omega), if_neg (by omega), if_pos (by omega), if_neg (by omega)] at hq
        refine s_Match_wantAll F PR.2.2 ol (fun h3 W g F3 S3 M3 w1 w2 f3 n3 l3 => ?_)
        refine v_Match_look_80 F3 ?_
        refine s_Match_lookForNearWords (wd := (pt.1 7 + pt.2.length - 1).toNat) F3 (PR.f47 S3) (R.f47 S3) (T.fr f3) M3 w1 w2 ol (by omega) (by omega) h0 h1 (fun h4 F4 S4 T4 n4 l4 => ?_)
        refine v_Match_look_86 F4 ?_
        exact hq h4 F4 (S3.trans S4) T4 (n4.trans n3) (l4.trans l3)

end
