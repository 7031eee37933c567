/-! ===== storew6 ===== -/
section
def fbZ (z : List Int) (b : List Txt) : List Int := if b.length = 0 then z else z ++ [(b.length : Int)]
def fbF (f : List (Txt × Bool)) (b : List Txt) : List (Txt × Bool) := f ++ b.map (fun t => (t, false))
theorem Swf.file {z : List Int} {f : List (Txt × Bool)} {b : List Txt} (W : Swf z f) : Swf (fbZ z b) (fbF f b) := by
  obtain ⟨w1, w2⟩ := W
  unfold fbZ fbF
  by_cases h : b.length = 0
  · rw [if_pos h]
    have : b = [] := List.length_eq_zero_iff.mp h
    subst this
    simp
    exact ⟨w1, w2⟩
  · rw [if_neg h]
    refine ⟨?_, fun x hx => ?_⟩
    · rw [List.sum_append, List.length_append, List.length_map, w1]; simp
    · rcases List.mem_append.mp hx with hx | hx
      · exact w2 x hx
      · rw [List.mem_singleton] at hx; omega
/-- the store's cells but for the texts -/
def STX (h : XH) : Int → Prop := fun c => c = 5 ∨ c = 8 ∨ ALC h 6 c ∨ ALC h 7 c
theorem STX.tag {h : XH} (F : xFix h) {c : Int} (w : STX h c) : xtg h c = 7 ∨ xtg h c = 100 ∨ xtg h c = 13 ∨ xtg h c = 110 := by
  rcases w with rfl | rfl | (rfl | ⟨w, -⟩) | (rfl | ⟨w, -⟩)
  · exact Or.inl (ft_5 F)
  · exact Or.inr (Or.inl (ft_8 F))
  · exact Or.inr (Or.inr (Or.inl (ft_6 F)))
  · exact Or.inr (Or.inr (Or.inr w))
  · exact Or.inr (Or.inr (Or.inl (ft_7 F)))
  · exact Or.inr (Or.inr (Or.inr w))
theorem STX.txt {h h' : XH} (F : xFix h) (e : xsm (STX h) h h') {p : Int} {t : Txt} (R : TxtR h p t) : TxtR h' p t ∧ xpl h' p 5 = xpl h p 5 := by
  have hp := e.pl R.1.2.1 (fun w => by
    have h1 := R.1.2.2
    rcases w.tag F with v | v | v | v <;> rw [v] at h1 <;> cases h1)
  refine ⟨R.frame e (fun k _ _ => hp k) (fun r r1 _ _ w => ?_), hp 5⟩
  rcases w.tag F with v | v | v | v <;> rw [v] at r1 <;> cases r1
theorem STX.stw {h : XH} {c : Int} (w : STX h c) : STW h c := by
  rcases w with w | w | w | w
  · exact Or.inl w
  · exact Or.inr (Or.inl w)
  · exact Or.inr (Or.inr (Or.inl w))
  · exact Or.inr (Or.inr (Or.inr (Or.inl w)))
theorem ALC.ne {h : XH} (F : xFix h) {c : Int} (hc : ALC h 6 c) : ¬ ALC h 7 c := by
  intro w
  rcases hc with rfl | ⟨h1, h2⟩
  · rcases w with w | ⟨w, -⟩
    · exact absurd w (by decide)
    · rw [ft_6 F] at w; cases w
  · rcases w with rfl | ⟨-, w⟩
    · rw [ft_7 F] at h1; cases h1
    · rw [h2] at w; cases w
theorem ALC.ne58 {h : XH} (F : xFix h) {a c : Int} (ha : a = 6 ∨ a = 7) (hc : ALC h a c) : c ≠ 5 ∧ c ≠ 8 := by
  rcases hc with rfl | ⟨h1, h2⟩
  · omega
  · constructor
    · rintro rfl; rw [ft_5 F] at h1; cases h1
    · rintro rfl; rw [ft_8 F] at h1; cases h1
theorem s_Store_fileBuffer {G : XG} {d : Nat} {h : XH} {Q : XV → XH → Prop} {X : Nat → XH → Prop} {bp fp : List Int} {b : List Txt} {f : List (Txt × Bool)} {z : List Int} {m : Int} (F : xFix h) (R : StoreR h bp fp b f z m) (W : Swf z f) (hbf : b.length + f.length ≤ 60) (hc : xnx h + b.length ≤ xKC) (hs : xsl h + 130 * b.length ≤ xKS)
    (hq : ∀ h', xFix h' → xsm (STW h) h h' → xnx h' ≤ xnx h + b.length → xsl h' ≤ xsl h + 130 * b.length → StoreR h' [] (fp ++ bp) [] (fbF f b) (fbZ z b) m → Q xN h') : xwp G m_Store_fileBuffer (d + 8) 0 [xR 5, xZ] [] h Q X := by
  have hnx := F.nx
  have R0 := R
  obtain ⟨⟨a1, a2, a3, a4, a5, a6⟩, t1, t2, t3, ⟨z1, z2, z3, z4⟩, z5⟩ := R
  have s6 := a1.sz
  have hzl := W.len
  have empty : b.length = 0 → Q xN h := by
    intro hb
    have e1 : b = [] := List.length_eq_zero_iff.mp hb
    have e2 : bp = [] := List.length_eq_zero_iff.mp (by omega)
    subst e1
    subst e2
    have := hq h F (xsm.refl h) (by omega) (by omega)
    unfold fbF fbZ at this
    rw [List.append_nil, List.map_nil, List.append_nil, if_pos (show ([] : List Txt).length = 0 from rfl)] at this
    exact this R0
  have loop : b.length ≠ 0 → ∀ (n i : Nat) (h2 : XH), i + n = bp.length → xFix h2 → xsm (ALC h 7) h h2 → xnx h2 ≤ xnx h + i → xsl h2 ≤ xsl h + 130 * i → ALr h2 7 (fp ++ bp.take i) → xwp G m_Store_fileBuffer (d + 8) 25 [xR 5, xI i] [] h2 Q X := by
    intro hb n
    induction n with
    | zero =>
      intro i h2 i1 F2 e2 n2 m2 R7
      have hi : i = bp.length := i1
      rw [hi, List.take_length] at R7
      have A6 : ALr h2 6 bp := a1.frame F e2 (fun c hc => hc.ne F)
      have n7 : ∀ c, c < 93 → c = 5 ∨ c = 8 → ∀ j, xpl h2 c j = xpl h c j := fun c c0 c2 => e2.pl (by omega) (fun w => by
        have := w.ne58 F (Or.inr rfl)
        omega)
      have p4 : xpl h2 5 4 = z.length := by rw [n7 5 (by decide) (by decide)]; exact z1
      have s62 := A6.sz
      have e2x : xsm (STX h) h h2 := e2.mono fun c _ w => Or.inr (Or.inr (Or.inr w))
      refine v_Store_fileBuffer_25 F2 ?_
      refine ⟨?_, ?_⟩
      · first | exact A6.ok | omega
      · refine ⟨fun q1 => ?_, fun q1 => ?_⟩
        · refine ⟨?_, ?_⟩
          · first | exact A6.ok | omega
          · refine ⟨?_, ?_⟩
            · first | exact A6.ok | omega
            · intro F9
              rw [p4, s62] at F9 ⊢
              have e3 : xsm (fun c => c = 5 ∨ c = 8) h2 (xst (xst h2 8 z.length bp.length) 5 4 (z.length + 1)) := ((xsm.refl h2).st (by omega) (Or.inl (Or.inr rfl))).st (by decide) (Or.inl (Or.inl rfl))
              have A63 := A6.frame F2 e3 (fun c hc w => by have := hc.ne58 F2 (Or.inl rfl); omega)
              have A73 := R7.frame F2 e3 (fun c hc w => by have := hc.ne58 F2 (Or.inr rfl); omega)
              refine s_AL_clear F9 A63 (fun h5 F5 e5 n5 m5 R5 => ?_)
              refine v_Store_fileBuffer_94 F5 ?_
              have e5x : xsm (STX h) h h5 := (e2x.then e3 (fun c _ w => by rcases w with w | w; exact Or.inl w; exact Or.inr (Or.inl w))).then e5 (fun c hc w => Or.inr (Or.inr (Or.inl (ALC.back (e2x.then e3 (fun c _ w => by rcases w with w | w; exact Or.inl w; exact Or.inr (Or.inl w))) hc w))))
              refine hq h5 F5 (e5x.mono fun c _ w => w.stw) (by rw [n5]; show xnx h2 ≤ _; omega) (by rw [m5]; show xsl h2 ≤ _; omega) ?_
              have k5 : ∀ c, c < 93 → c = 5 ∨ c = 8 → ∀ j, xpl h5 c j = xpl (xst (xst h2 8 z.length bp.length) 5 4 (z.length + 1)) c j := fun c c0 c2 => e5.pl (by show c < xnx h2; have := e2.1; omega) (fun w => by
                have := w.ne58 F9 (Or.inl rfl)
                omega)
              have fz : fbZ z b = z ++ [(b.length : Int)] := by unfold fbZ; rw [if_neg hb]
              rw [fz]
              refine ⟨⟨R5, A73.frame F9 e5 (fun c hc w => w.ne F9 hc), rfl, ?_, by decide, ?_⟩, fun i p t w1 _ => by simp at w1, fun i p t w1 w2 => ?_, ?_, ⟨?_, ?_, fun i hi => ?_, fun i i0 i1 => ?_⟩, ?_⟩
              · unfold fbF; rw [List.length_append, List.length_append, List.length_map]; omega
              · unfold fbF; rw [List.length_append, List.length_map]; omega
              · unfold fbF at w2
                by_cases hlt : i < fp.length
                · rw [List.getElem?_append_left hlt] at w1
                  rw [List.getElem?_append_left (by omega)] at w2
                  obtain ⟨v1, v2⟩ := t2 i p t w1 w2
                  obtain ⟨v3, v4⟩ := STX.txt F e5x v1
                  exact ⟨v3, v4.trans v2⟩
                · rw [List.getElem?_append_right (by omega)] at w1
                  rw [List.getElem?_append_right (by omega), List.getElem?_map] at w2
                  rw [a4] at w1
                  cases hbt : b[i - f.length]? with
                  | none => rw [hbt] at w2; cases w2
                  | some t9 =>
                    rw [hbt] at w2
                    have w3 : (t9, false) = t := Option.some.inj w2
                    subst w3
                    obtain ⟨v1, v2⟩ := t1 _ p t9 w1 hbt
                    obtain ⟨v3, v4⟩ := STX.txt F e5x v1
                    exact ⟨v3, v4.trans v2⟩
              · rw [List.nil_append]
                exact (List.perm_append_comm.nodup_iff).mp t3
              · rw [k5 5 (by decide) (by decide), xpl_hit, List.length_append]; rfl
              · rw [List.length_append]; show z.length + 1 ≤ 60; omega
              · rw [k5 8 (by decide) (by decide), xpl_oa (by decide)]
                rw [List.length_append] at hi
                have hi2 : i < z.length + 1 := hi
                by_cases w : i = z.length
                · subst w
                  rw [xpl_hit, List.getElem?_append_right (Nat.le_refl _), Nat.sub_self, a3]; rfl
                · rw [xpl_ok (by omega), List.getElem?_append_left (by omega), n7 8 (by decide) (by decide)]
                  exact z3 i (by omega)
              · rw [k5 8 (by decide) (by decide), xpl_oa (by decide), xpl_st]
                split
                · omega
                · rw [n7 8 (by decide) (by decide)]; exact z4 i i0 i1
              · rw [k5 5 (by decide) (by decide), xpl_ok (by decide), xpl_oa (by decide), n7 5 (by decide) (by decide)]; exact z5
        · refine ⟨?_, ?_⟩
          · first | exact A6.ok | omega
          · refine ⟨?_, ?_⟩
            · first | exact A6.ok | omega
            · omega
    | succ n ih =>
      intro i h2 i1 F2 e2 n2 m2 R7
      have A6 : ALr h2 6 bp := a1.frame F e2 (fun c hc => hc.ne F)
      have s62 := A6.sz
      have hat := A6.at (i := i) (by omega)
      have hpi : alg h2 6 i = bp[i]'(by omega) := by
        rw [List.getElem?_eq_getElem (by omega)] at hat
        exact (Option.some.inj hat).symm
      have htx := (t1 i _ _ hat (List.getElem?_eq_getElem (by omega))).1
      have htg : xtg h2 (alg h2 6 i) = 9 := by rw [e2.tg htx.1.2.1]; exact htx.1.2.2
      have hlen : (fp ++ bp.take i).length ≤ 60 := by rw [List.length_append, List.length_take]; omega
      refine v_Store_fileBuffer_25 F2 ?_
      refine ⟨?_, ?_⟩
      · first | exact A6.ok | omega | exact htg
      · refine ⟨fun q1 => ?_, fun q1 => ?_⟩
        · refine ⟨?_, ?_⟩
          · first | exact A6.ok | omega | exact htg
          · refine ⟨?_, ?_⟩
            · first | exact A6.ok | omega | exact htg
            · intro F9
              omega
        · refine ⟨?_, ?_⟩
          · first | exact A6.ok | omega | exact htg
          · refine ⟨?_, ?_⟩
            · first | exact A6.ok | omega | exact htg
            · refine s_AL_add F2 R7 (by omega) (by have := htx.1.2.1; have := e2.1; omega) (by rw [htg]; rfl) (by omega) (by omega) (fun h3 F3 e3 n3 m3 R3 => ?_)
              refine v_Store_fileBuffer_54 F3 ?_
              refine ⟨?_, ?_⟩
              · exact ⟨by omega, by omega⟩
              · have := ih (i + 1) h3 (by omega) F3 (e2.then e3 (fun c hc w => w.back e2 hc)) (by omega) (by omega) ?_
                · exact this
                · rw [List.take_succ, hat]
                  rw [List.append_assoc] at R3
                  exact R3
  refine v_Store_fileBuffer_0 F ?_
  refine ⟨?_, ?_⟩
  · exact a1.ok
  · refine ⟨fun q1 => ?_, fun q1 => ?_⟩
    · exact empty (by have := of_decide_eq_true q1; omega)
    · refine ⟨fun q2 => ?_, fun q2 => ?_⟩
      · exact loop (fun w => q1 (decide_eq_true (by omega))) bp.length 0 h (by omega) F (xsm.refl h) (by omega) (by omega) (by rw [List.take_zero, List.append_nil]; exact a2)
      · have : b.length ≠ 0 := fun w => q1 (decide_eq_true (by omega))
        omega

end
