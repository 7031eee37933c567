/-! ===== storew2 ===== -/
section
theorem nodup_at {l : List Int} (h : l.Nodup) {i j : Nat} {p : Int} (hi : l[i]? = some p) (hj : l[j]? = some p) : i = j := by
  obtain ⟨a1, a2⟩ := List.getElem?_eq_some_iff.mp hi
  obtain ⟨b1, b2⟩ := List.getElem?_eq_some_iff.mp hj
  have h9 := List.pairwise_iff_getElem.mp h
  rcases Nat.lt_trichotomy i j with z | z | z
  · exact absurd (a2.trans b2.symm) (h9 i j a1 b1 z)
  · exact z
  · exact absurd (b2.trans a2.symm) (h9 j i b1 a1 z)
theorem eraseIdx_at' {α : Type} {es : List α} {i j : Nat} : (es.eraseIdx i)[j]? = if j < i then es[j]? else es[j + 1]? := by
  rw [List.getElem?_eraseIdx]
theorem eraseIdx_nodup {l : List Int} {r : List Int} (h : (l ++ r).Nodup) (i : Nat) : ((l.eraseIdx i) ++ r).Nodup := by
  refine h.sublist ?_
  exact (List.eraseIdx_sublist l i).append (List.Sublist.refl r)
/-- the list's own writes leave the rest of the store -/
theorem xsm.al_txt {h h' : XH} {a p : Int} {t : Txt} (R : TxtR h p t) (e : xsm (ALC h a) h h') (hx : xtg h a = 13) : TxtR h' p t ∧ xpl h' p 5 = xpl h p 5 := by
  have hp := e.pl R.1.2.1 (fun w => by
    rcases w with w | ⟨w, -⟩
    · rw [w] at R; have := R.1.2.2; rw [hx] at this; cases this
    · rw [R.1.2.2] at w; cases w)
  refine ⟨R.frame e (fun k _ _ => hp k) (fun r r1 r2 r3 w => ?_), hp 5⟩
  rcases w with w | ⟨w, -⟩
  · rw [w, hx] at r1; cases r1
  · rw [r1] at w; cases w
/-- marking, taking out -/
def markI (f : List (Txt × Bool)) (i : Int) : List (Txt × Bool) := f.modify i.toNat (fun t => (t.1, true))
def dropB (b : List Txt) (k : Int) : List Txt := if kidx b k = -1 then b else b.eraseIdx (kidx b k).toNat
def dropF (f : List (Txt × Bool)) (k : Int) : List (Txt × Bool) := if sidx f k = -1 then f else markI f (sidx f k)
theorem StoreR.mark {h : XH} {bp fp : List Int} {b : List Txt} {f : List (Txt × Bool)} {z : List Int} {m : Int} (R : StoreR h bp fp b f z m) (F : xFix h) {i : Nat} {p : Int} (hp : fp[i]? = some p) : StoreR (xst h p 5 1) bp fp b (f.modify i (fun t => (t.1, true))) z m := by
  have hnx := F.nx
  obtain ⟨⟨a1, a2, a3, a4, a5, a6⟩, h1, h2, h3, ⟨z1, z2, z3, z4⟩, z5⟩ := R
  have hi : i < fp.length := (List.getElem?_eq_some_iff.mp hp).1
  have hq := h2 i p _ hp (List.getElem?_eq_getElem (by omega))
  have hpn := hq.1.1.1
  have e : xsm (fun c => c = p) h (xst h p 5 1) := (xsm.refl h).st (by decide) (Or.inl rfl)
  have al : ∀ a es, a < 93 → ALr h a es → ALr (xst h p 5 1) a es := fun a es ha r => r.frame F e (fun c hc w => by
    rcases hc with hc | ⟨hc, -⟩
    · omega
    · rw [w, hq.1.1.2.2] at hc; cases hc)
  have tx : ∀ p' t, TxtR h p' t → TxtR (xst h p 5 1) p' t := fun p' t r => r.frame e (fun k k0 k1 => xpl_ok (by omega)) (fun r r1 _ _ w => by rw [w, hq.1.1.2.2] at r1; cases r1)
  refine ⟨⟨al 6 _ (by decide) a1, al 7 _ (by decide) a2, a3, by rw [List.length_modify]; exact a4, a5, by rw [List.length_modify]; exact a6⟩, fun j p' t w1 w2 => ?_, fun j p' t w1 w2 => ?_, h3, ⟨by rw [xpl_oa (by omega)]; exact z1, z2, fun j hj => by rw [xpl_oa (by omega)]; exact z3 j hj, fun j j0 j1 => by rw [xpl_oa (by omega)]; exact z4 j j0 j1⟩, by rw [xpl_oa (by omega)]; exact z5⟩
  · obtain ⟨w3, w4⟩ := h1 j p' t w1 w2
    refine ⟨tx _ _ w3, ?_⟩
    rw [xpl_oa ?_]
    · exact w4
    · rintro rfl
      have m1 := List.mem_of_getElem? w1
      have m2 := List.mem_of_getElem? hp
      exact (List.nodup_append.mp h3).2.2 _ m1 _ m2 rfl
  · rw [List.getElem?_modify] at w2
    by_cases hj : i = j
    · subst hj
      rw [hp] at w1
      cases w1
      rw [List.getElem?_eq_getElem (by omega)] at w2
      simp at w2
      subst w2
      exact ⟨tx _ _ hq.1, xpl_hit _ _ _ _⟩
    · simp [hj] at w2
      obtain ⟨w3, w4⟩ := h2 j p' t w1 w2
      refine ⟨tx _ _ w3, ?_⟩
      rw [xpl_oa ?_]
      · exact w4
      · rintro rfl
        exact hj (nodup_at (List.nodup_append.mp h3).2.1 hp w1)
theorem s_Store_drop {G : XG} {d : Nat} {h : XH} {Q : XV → XH → Prop} {X : Nat → XH → Prop} {k : Int} {bp fp : List Int} {b : List Txt} {f : List (Txt × Bool)} {z : List Int} {m : Int} (F : xFix h) (R : StoreR h bp fp b f z m)
    (hq : ∀ h' bp', xFix h' → xsm (STW h) h h' → xnx h' = xnx h → xsl h' = xsl h → StoreR h' bp' fp (dropB b k) (dropF f k) z m → (∀ c j, xtg h c = 9 → c < xnx h → c ∉ fp → xpl h' c j = xpl h c j) → (∀ x ∈ bp', x ∈ bp) → Q (xI (b2i (decide (sidx f k ≠ -1)))) h') : xwp G m_Store_drop (d + 5) 0 [xR 5, xI k, xZ] [] h Q X := by
  have second : ∀ h2 bp2, xFix h2 → xsm (STW h) h h2 → xnx h2 = xnx h → xsl h2 = xsl h → StoreR h2 bp2 fp (dropB b k) f z m → (∀ c j, xtg h c = 9 → c < xnx h → xpl h2 c j = xpl h c j) → (∀ x ∈ bp2, x ∈ bp) → xwp G m_Store_drop (d + 5) 20 [xR 5, xI k, xZ] [] h2 Q X := by
    intro h2 bp2 F2 e2 n2 m2 R2 kp9 sub9
    have hf := R2.ef
    refine v_Store_drop_20 F2 ?_
    refine ⟨?_, ?_⟩
    · exact R2.ok
    · refine ⟨fun q1 => ?_, fun q1 => ?_⟩
      · rw [hf] at q1 ⊢
        have hd : dropF f k = f := by unfold dropF; rw [if_pos q1]
        have q := hq h2 bp2 F2 e2 n2 m2 (by rw [hd]; exact R2) (fun c j c1 c2 _ => kp9 c j c1 c2) sub9
        rw [decide_eq_false (by omega)] at q
        refine v_Store_drop_46 F2 ?_
        refine ⟨fun q1 => ?_, fun q1 => ?_⟩
        · exact q
        · omega
      · refine ⟨?_, ?_⟩
        · rw [hf] at q1 ⊢
          have r1 := idxI_rng (fun t : Txt × Bool => decide (t.1.1 = k) && !t.2) f
          have g := R2.1.2.1.get (i := sidx f k) (by unfold sidx at q1 ⊢; omega) (by rw [R2.1.2.2.2.1]; unfold sidx; omega)
          exact (R2.2.2.1 _ _ _ g (List.getElem?_eq_getElem (by unfold sidx at q1 ⊢; omega))).1.1.2.2
        · refine ⟨?_, ?_⟩
          · rw [hf] at q1 ⊢
            have r1 := idxI_rng (fun t : Txt × Bool => decide (t.1.1 = k) && !t.2) f
            have g := R2.1.2.1.get (i := sidx f k) (by unfold sidx at q1 ⊢; omega) (by rw [R2.1.2.2.2.1]; unfold sidx; omega)
            have := (R2.2.2.1 _ _ _ g (List.getElem?_eq_getElem (by unfold sidx at q1 ⊢; omega))).1.1.1
            omega
          · intro F9
            rw [hf] at q1 F9 ⊢
            have r1 := idxI_rng (fun t : Txt × Bool => decide (t.1.1 = k) && !t.2) f
            have g := R2.1.2.1.get (i := sidx f k) (by unfold sidx at q1 ⊢; omega) (by rw [R2.1.2.2.2.1]; unfold sidx; omega)
            have hx := (R2.2.2.1 _ _ _ g (List.getElem?_eq_getElem (by unfold sidx at q1 ⊢; omega))).1.1
            have hd : dropF f k = f.modify (sidx f k).toNat (fun t => (t.1, true)) := by unfold dropF; rw [if_neg q1]; rfl
            have q := hq _ bp2 F9 (e2.st (by decide) ?_) n2 m2 (by rw [hd]; exact R2.mark F2 g) (fun c j c1 c2 c3 => by rw [xpl_oa (fun y => c3 (by rw [y]; exact List.mem_of_getElem? g))]; exact kp9 c j c1 c2) sub9
            · rw [decide_eq_true (by omega)] at q
              refine v_Store_drop_46 F9 ?_
              refine ⟨fun q1 => ?_, fun q1 => ?_⟩
              · omega
              · exact q
            · by_cases w : alg h2 7 (sidx f k) < xnx h
              · refine Or.inl (Or.inr (Or.inr (Or.inr (Or.inr ?_))))
                rw [← e2.tg w]; exact hx.2.2
              · exact Or.inr (by omega)
  have hb := R.eb
  have hnx := F.nx
  refine v_Store_drop_0 F ?_
  refine ⟨?_, ?_⟩
  · exact R.ok
  · refine ⟨fun q1 => ?_, fun q1 => ?_⟩
    · rw [hb] at q1
      exact second h bp F (xsm.refl h) rfl rfl (by unfold dropB; rw [if_pos q1]; exact R) (fun _ _ _ _ => rfl) (fun _ y => y)
    · rw [hb] at q1 ⊢
      have r1 := idxI_rng (fun t : Txt => decide (t.1 = k)) b
      have r2 : kidx b k < b.length := by unfold kidx; omega
      have r0 : 0 ≤ kidx b k := by unfold kidx at q1 ⊢; omega
      refine s_AL_remove F R.1.1 r0 (by rw [R.1.2.2.1]; exact r2) (fun h2 F2 e2 n2 m2 R2 => ?_)
      refine v_Store_drop_19 F2 ?_
      refine second h2 (bp.eraseIdx (kidx b k).toNat) F2 (e2.mono fun c _ w => Or.inr (Or.inr (Or.inl w))) n2 m2 ?_ (fun c j c1 c2 => e2.pl c2 (fun w => by
        rcases w with w | w
        · rw [w, ft_6 F] at c1; cases c1
        · rw [c1] at w; cases w.1) j) (fun x hx => List.mem_of_mem_eraseIdx hx)
      obtain ⟨⟨a1, a2, a3, a4, a5, a6⟩, h1, h2', h3, ⟨z1, z2, z3, z4⟩, z5⟩ := R
      have hd : dropB b k = b.eraseIdx (kidx b k).toNat := by unfold dropB; rw [if_neg q1]
      have n6 : ∀ c, c < 93 → c ≠ 6 → c = 5 ∨ c = 8 ∨ c = 7 → ∀ j, xpl h2 c j = xpl h c j := fun c c0 c1 c2 => e2.pl (by omega) (fun w => by
        rcases w with w | ⟨w, -⟩
        · exact c1 w
        · rcases c2 with rfl | rfl | rfl
          · rw [ft_5 F] at w; cases w
          · rw [ft_8 F] at w; cases w
          · rw [ft_7 F] at w; cases w)
      rw [hd]
      refine ⟨⟨R2, ?_, ?_, a4, ?_, a6⟩, fun i p t w1 w2 => ?_, fun i p t w1 w2 => ?_, eraseIdx_nodup h3 _, ⟨by rw [n6 5 (by decide) (by decide) (by decide)]; exact z1, z2, fun i hi => by rw [n6 8 (by decide) (by decide) (by decide)]; exact z3 i hi, fun i i0 i1 => by rw [n6 8 (by decide) (by decide) (by decide)]; exact z4 i i0 i1⟩, by rw [n6 5 (by decide) (by decide) (by decide)]; exact z5⟩
      · refine a2.frame F e2 (fun c hc w => ?_)
        rcases hc with hc | ⟨hc, hc2⟩
        · subst hc
          rcases w with w | ⟨w, -⟩
          · exact absurd w (by decide)
          · rw [ft_7 F] at w; cases w
        · rcases w with w | ⟨w, w2⟩
          · rw [w, ft_6 F] at hc; cases hc
          · rw [hc2] at w2; cases w2
      · rw [List.length_eraseIdx, List.length_eraseIdx, a3]
      · have := List.length_eraseIdx_le b (kidx b k).toNat
        omega
      · rw [eraseIdx_at'] at w1 w2
        have fin : ∀ j : Nat, bp[j]? = some p → b[j]? = some t → TxtR h2 p t ∧ xpl h2 p 5 = 0 := fun j v1 v2 => by
          obtain ⟨v3, v4⟩ := h1 j p t v1 v2
          obtain ⟨v5, v6⟩ := e2.al_txt v3 (ft_6 F)
          exact ⟨v5, v6.trans v4⟩
        split at w1
        · rename_i hlt
          rw [if_pos hlt] at w2
          exact fin _ w1 w2
        · rename_i hlt
          rw [if_neg hlt] at w2
          exact fin _ w1 w2
      · obtain ⟨v3, v4⟩ := h2' i p t w1 w2
        obtain ⟨v5, v6⟩ := e2.al_txt v3 (ft_6 F)
        exact ⟨v5, v6.trans v4⟩

end
