/-! ===== storew3 ===== -/
section
theorem xsm.then {C D : Int → Prop} {h h1 h2 : XH} (a : xsm C h h1) (b : xsm D h1 h2) (hD : ∀ c, c < xnx h → D c → C c) : xsm C h h2 := by
  refine ⟨by have := a.1; have := b.1; omega, by have := a.2.1; have := b.2.1; omega, fun c hc => ?_⟩
  obtain ⟨a1, a2, a3, a4⟩ := a.2.2 c hc
  obtain ⟨b1, b2, b3, b4⟩ := b.2.2 c (by have := a.1; omega)
  exact ⟨b1.trans a1, b2.trans a2, b3.trans a3, fun hn k => (b4 (fun z => hn (hD c hc z)) k).trans (a4 hn k)⟩
theorem ALC.back {C : Int → Prop} {h h1 : XH} {x c : Int} (a : xsm C h h1) (hc : c < xnx h) (w : ALC h1 x c) : ALC h x c := by
  rcases w with w | ⟨w1, w2⟩
  · exact Or.inl w
  · exact Or.inr ⟨by rw [← a.tg hc]; exact w1, by rw [← a.mkd hc]; exact w2⟩
theorem STW.back {C : Int → Prop} {h h1 : XH} {c : Int} (a : xsm C h h1) (hc : c < xnx h) (w : STW h1 c) : STW h c := by
  rcases w with w | w | w | w | w
  · exact Or.inl w
  · exact Or.inr (Or.inl w)
  · exact Or.inr (Or.inr (Or.inl (w.back a hc)))
  · exact Or.inr (Or.inr (Or.inr (Or.inl (w.back a hc))))
  · exact Or.inr (Or.inr (Or.inr (Or.inr (by rw [← a.tg hc]; exact w))))
/-- what the list 7's writes leave of the store -/
theorem StoreR.al7 {h h' : XH} {bp fp fp' : List Int} {b : List Txt} {f f' : List (Txt × Bool)} {z : List Int} {m : Int} (R : StoreR h bp fp b f z m) (F : xFix h) (e : xsm (ALC h 7) h h') (R7 : ALr h' 7 fp') (hl : fp'.length = f'.length) (hl2 : f'.length ≤ 60) (hnd : (bp ++ fp').Nodup)
    (hsub : ∀ (i : Nat) p t, fp'[i]? = some p → f'[i]? = some t → ∃ j : Nat, fp[j]? = some p ∧ f[j]? = some t) : StoreR h' bp fp' b f' z m := by
  have hnx := F.nx
  obtain ⟨⟨a1, a2, a3, a4, a5, a6⟩, h1, h2, h3, ⟨z1, z2, z3, z4⟩, z5⟩ := R
  have n7 : ∀ c, c < 93 → c = 5 ∨ c = 8 → ∀ j, xpl h' c j = xpl h c j := fun c c0 c2 => e.pl (by omega) (fun w => by
    rcases w with w | ⟨w, -⟩
    · omega
    · rcases c2 with rfl | rfl
      · rw [ft_5 F] at w; cases w
      · rw [ft_8 F] at w; cases w)
  refine ⟨⟨?_, R7, a3, hl, a5, hl2⟩, fun i p t w1 w2 => ?_, fun i p t w1 w2 => ?_, hnd, ⟨by rw [n7 5 (by decide) (by decide)]; exact z1, z2, fun i hi => by rw [n7 8 (by decide) (by decide)]; exact z3 i hi, fun i i0 i1 => by rw [n7 8 (by decide) (by decide)]; exact z4 i i0 i1⟩, by rw [n7 5 (by decide) (by decide)]; exact z5⟩
  · refine a1.frame F e (fun c hc w => ?_)
    rcases hc with hc | ⟨hc, hc2⟩
    · subst hc
      rcases w with w | ⟨w, -⟩
      · exact absurd w (by decide)
      · rw [ft_6 F] at w; cases w
    · rcases w with w | ⟨w, w2⟩
      · rw [w, ft_7 F] at hc; cases hc
      · rw [hc2] at w2; cases w2
  · obtain ⟨v3, v4⟩ := h1 i p t w1 w2
    obtain ⟨v5, v6⟩ := e.al_txt v3 (ft_7 F)
    exact ⟨v5, v6.trans v4⟩
  · obtain ⟨j, w3, w4⟩ := hsub i p t w1 w2
    obtain ⟨v3, v4⟩ := h2 j p t w3 w4
    obtain ⟨v5, v6⟩ := e.al_txt v3 (ft_7 F)
    exact ⟨v5, v6.trans v4⟩
theorem StoreR.rem7 {h h' : XH} {bp fp : List Int} {b : List Txt} {f : List (Txt × Bool)} {z : List Int} {m : Int} (R : StoreR h bp fp b f z m) (F : xFix h) (i : Nat) (e : xsm (ALC h 7) h h') (R7 : ALr h' 7 (fp.eraseIdx i)) : StoreR h' bp (fp.eraseIdx i) b (f.eraseIdx i) z m := by
  refine R.al7 F e R7 ?_ ?_ ?_ ?_
  · rw [List.length_eraseIdx, List.length_eraseIdx, R.1.2.2.2.1]
  · have := List.length_eraseIdx_le f i
    have := R.1.2.2.2.2.2
    omega
  · refine R.2.2.2.1.sublist ?_
    exact (List.Sublist.refl bp).append (List.eraseIdx_sublist fp i)
  · intro j p t w1 w2
    rw [eraseIdx_at'] at w1 w2
    split at w1
    · rename_i hlt
      rw [if_pos hlt] at w2
      exact ⟨j, w1, w2⟩
    · rename_i hlt
      rw [if_neg hlt] at w2
      exact ⟨j + 1, w1, w2⟩
/-- the sizes, some replaced by one -/
def rplS (z : List Int) (first count : Nat) (size : Int) : List Int := z.take first ++ (if 0 < size then [size] else []) ++ z.drop (first + count)
theorem stok.st8 {h : XH} (R : stok h) (F : xFix h) {s v : Int} (v0 : 0 ≤ v) (v1 : v ≤ 60) : stok (xst h 8 s v) := by
  obtain ⟨a1, a2, a3, a4, a5, a6, a7, a8⟩ := R
  have g : ∀ a j, a ≠ 8 → xpl (xst h 8 s v) a j = xpl h a j := fun a j ha => xpl_oa ha
  have d6 : xpl h 6 0 ≠ 8 := fun w => by have := a1.2.1; rw [w, ft_8 F] at this; cases this
  have d7 : xpl h 7 0 ≠ 8 := fun w => by have := a2.2.1; rw [w, ft_8 F] at this; cases this
  have tx : ∀ p, txok h p → txok (xst h 8 s v) p := fun p r => by
    have hp : p ≠ 8 := fun w => by have := r.1; rw [w, ft_8 F] at this; cases this
    refine ⟨r.1, ?_, ?_, ?_, ?_⟩ <;> rw [g _ _ hp]
    · exact r.2.1
    · exact r.2.2.1
    · exact r.2.2.2.1
    · exact r.2.2.2.2
  have e6 : ∀ i, alg (xst h 8 s v) 6 i = alg h 6 i := fun i => by unfold alg; rw [g 6 0 (by decide), g _ _ d6]
  have e7 : ∀ i, alg (xst h 8 s v) 7 i = alg h 7 i := fun i => by unfold alg; rw [g 7 0 (by decide), g _ _ d7]
  have s6 : als (xst h 8 s v) 6 = als h 6 := g 6 1 (by decide)
  have s7 : als (xst h 8 s v) 7 = als h 7 := g 7 1 (by decide)
  refine ⟨⟨a1.1, ?_, ?_, ?_, ?_⟩, ⟨a2.1, ?_, ?_, ?_, ?_⟩, fun i i0 i1 => ?_, fun i i0 i1 => ?_, ?_, fun i i0 i1 => ?_, ?_, ?_⟩
  · rw [g 6 0 (by decide)]; exact a1.2.1
  · rw [s6]; exact a1.2.2.1
  · rw [s6, g 6 0 (by decide)]; exact a1.2.2.2.1
  · rw [s6]; exact a1.2.2.2.2
  · rw [g 7 0 (by decide)]; exact a2.2.1
  · rw [s7]; exact a2.2.2.1
  · rw [s7, g 7 0 (by decide)]; exact a2.2.2.2.1
  · rw [s7]; exact a2.2.2.2.2
  · rw [e6]; rw [s6] at i1; exact tx _ (a3 i i0 i1)
  · rw [e7]; rw [s7] at i1; exact tx _ (a4 i i0 i1)
  · rw [g 5 4 (by decide)]; exact a5
  · rw [xpl_st]
    split
    · exact ⟨v0, v1⟩
    · exact a6 i i0 i1
  · rw [s6]; exact a7
  · rw [s7]; exact a8
theorem s_Store_replaceSizes {G : XG} {d : Nat} {h : XH} {Q : XV → XH → Prop} {X : Nat → XH → Prop} {first count : Nat} {size : Int} (F : xFix h) (R : stok h) (h1 : 1 ≤ count) (h2 : (first + count : Int) ≤ xpl h 5 4) (h3 : 0 ≤ size) (h4 : size ≤ 60)
    (hq : ∀ h', xFix h' → xsm (fun c => c = 5 ∨ c = 8) h h' → xnx h' = xnx h → xsl h' = xsl h → xpl h' 5 4 = (rplS (szL h) first count size).length → (∀ i : Nat, i < (rplS (szL h) first count size).length → (rplS (szL h) first count size)[i]? = some (xpl h' 8 i)) → (∀ i, 0 ≤ i → i < 60 → 0 ≤ xpl h' 8 i ∧ xpl h' 8 i ≤ 60) → (∀ k, k ≠ 4 → xpl h' 5 k = xpl h 5 k) → Q xN h') : xwp G m_Store_replaceSizes (d + 2) 0 [xR 5, xI first, xI count, xI size, xZ, xZ, xZ] [] h Q X := by
  have hnx := F.nx
  have hp := R.2.2.2.2.1
  have hl := szL_len h
  obtain ⟨z, hz⟩ : ∃ z, z = szL h := ⟨_, rfl⟩
  rw [← hz] at hq hl
  have hzat : ∀ i : Nat, (i : Int) < xpl h 5 4 → z[i]? = some (xpl h 8 i) := fun i hi => by rw [hz]; exact szL_at hi
  obtain ⟨lf, hlf⟩ : ∃ lf : Nat, lf = if 0 < size then 1 else 0 := ⟨_, rfl⟩
  have hlf1 : lf ≤ 1 := by rw [hlf]; split <;> omega
  have hrl : (rplS z first count size).length = z.length - count + lf := by
    unfold rplS
    rw [List.length_append, List.length_append, List.length_take, List.length_drop, hlf]
    split <;> simp <;> omega
  have hlo : ∀ i : Nat, i < first → (rplS z first count size)[i]? = z[i]? := fun i hi => by
    unfold rplS
    rw [List.append_assoc, List.getElem?_append_left (by rw [List.length_take]; omega), List.getElem?_take, if_pos hi]
  have hmid : lf = 1 → (rplS z first count size)[first]? = some size := fun hs => by
    have hs2 : 0 < size := by
      by_cases w : 0 < size
      · exact w
      · rw [if_neg w] at hlf; omega
    unfold rplS
    rw [List.append_assoc, List.getElem?_append_right (by rw [List.length_take]; omega), List.length_take, if_pos hs2, show first - min first z.length = 0 by omega]
    rfl
  have hhi : ∀ i : Nat, first + lf ≤ i → (rplS z first count size)[i]? = z[i + (count - lf)]? := fun i hi => by
    have hlen : (z.take first ++ (if 0 < size then [size] else [])).length = first + lf := by
      rw [List.length_append, List.length_take, hlf]
      split <;> simp <;> omega
    unfold rplS
    rw [List.getElem?_append_right (by rw [hlen]; exact hi), List.getElem?_drop, hlen]
    congr 1
    omega
  have loop : ∀ (n : Nat) (s : Nat) (h2 : XH), (s + (count - lf) + n : Int) = xpl h 5 4 → first + lf ≤ s → xFix h2 → xsm (fun c => c = 5 ∨ c = 8) h h2 → xnx h2 = xnx h → xsl h2 = xsl h → stok h2 → (∀ k, xpl h2 5 k = xpl h 5 k) → (∀ i : Nat, i < s → (rplS z first count size)[i]? = some (xpl h2 8 i)) → (∀ i : Nat, s ≤ i → xpl h2 8 i = xpl h 8 i) → xwp G m_Store_replaceSizes (d + 2) 44 [xR 5, xZ, xZ, xZ, xZ, xI (count - lf), xI s] [] h2 Q X := by
    intro n
    induction n with
    | zero =>
      intro s h2' s1 s2 F2 e2 n2 m2 R2 p5 lo hi
      have p4 := p5 4
      refine v_Store_replaceSizes_44 F2 ?_
      refine ⟨?_, ?_⟩
      · first | exact ⟨by omega, by omega⟩ | omega | exact R2
      · refine ⟨fun q1 => ?_, fun q1 => ?_⟩
        · refine ⟨?_, ?_⟩
          · first | exact ⟨by omega, by omega⟩ | omega | exact R2
          · intro F9
            refine hq _ F9 (e2.st (by decide) (Or.inl (Or.inl rfl))) n2 m2 (by rw [xpl_hit]; omega) (fun i hi2 => by rw [xpl_oa (by decide)]; exact lo i (by omega)) (fun i i0 i1 => by rw [xpl_oa (by decide)]; exact R2.2.2.2.2.2.1 i i0 i1) (fun k hk => by rw [xpl_ok hk]; exact p5 k)
        · refine ⟨?_, ?_⟩
          · first | exact ⟨by omega, by omega⟩ | omega | exact R2
          · refine ⟨?_, ?_⟩
            · first | exact ⟨by omega, by omega⟩ | omega | exact R2
            · refine ⟨?_, ?_⟩
              · first | exact ⟨by omega, by omega⟩ | omega | exact R2
              · intro F9
                omega
    | succ n ih =>
      intro s h2' s1 s2 F2 e2 n2 m2 R2 p5 lo hi
      have p4 := p5 4
      have g := szA_rng R2 ((s : Int) + (count - lf))
      have hv : szA (szL h2') ((s : Int) + (count - lf)) = xpl h 8 ((s : Int) + (count - lf)) := by
        unfold szA
        rw [if_neg (by omega), szL_at (by omega)]
        show xpl h2' 8 _ = _
        rw [hi _ (by omega), show ((((s : Int) + (count - lf)).toNat : Nat) : Int) = (s : Int) + (count - lf) by omega]
      refine v_Store_replaceSizes_44 F2 ?_
      refine ⟨?_, ?_⟩
      · first | exact ⟨by omega, by omega⟩ | omega | exact R2
      · refine ⟨fun q1 => ?_, fun q1 => ?_⟩
        · refine ⟨?_, ?_⟩
          · first | exact ⟨by omega, by omega⟩ | omega | exact R2
          · intro F9
            omega
        · refine ⟨?_, ?_⟩
          · first | exact ⟨by omega, by omega⟩ | omega | exact R2
          · refine ⟨?_, ?_⟩
            · first | exact ⟨by omega, by omega⟩ | omega | exact R2
            · refine ⟨?_, ?_⟩
              · first | exact ⟨by omega, by omega⟩ | omega | exact R2
              · intro F9
                refine ih (s + 1) _ (by omega) (by omega) F9 (e2.st (by omega) (Or.inl (Or.inr rfl))) n2 m2 (R2.st8 F2 g.1 g.2) (fun k => by rw [xpl_oa (by decide)]; exact p5 k) (fun i hi2 => ?_) (fun i hi2 => by rw [xpl_ok (by omega)]; exact hi i (by omega))
                by_cases w : i = s
                · subst w
                  rw [xpl_hit, hv, hhi i (by omega), hzat _ (by omega)]
                  congr 2
                  omega
                · rw [xpl_ok (by omega)]; exact lo i (by omega)
  have enter : ∀ (h2 : XH), xFix h2 → xsm (fun c => c = 5 ∨ c = 8) h h2 → xnx h2 = xnx h → xsl h2 = xsl h → stok h2 → (∀ k, xpl h2 5 k = xpl h 5 k) → (∀ i : Nat, i < first + lf → (rplS z first count size)[i]? = some (xpl h2 8 i)) → (∀ i : Nat, first + lf ≤ i → xpl h2 8 i = xpl h 8 i) → xwp G m_Store_replaceSizes (d + 2) 32 [xR 5, xI first, xI count, xZ, xI lf, xZ, xZ] [] h2 Q X := by
    intro h2' F2 e2 n2 m2 R2 p5 lo hi
    refine v_Store_replaceSizes_32 F2 ?_
    refine ⟨?_, ?_⟩
    · exact ⟨by omega, by omega⟩
    · refine ⟨?_, ?_⟩
      · exact ⟨by omega, by omega⟩
      · have := loop (z.length - (first + count)) (first + lf) h2' (by omega) (by omega) F2 e2 n2 m2 R2 p5 lo hi
        exact this
  refine v_Store_replaceSizes_0 F ?_
  refine ⟨fun q1 => ?_, fun q1 => ?_⟩
  · have e0 : lf = 0 := by rw [hlf, if_neg (by omega)]
    refine v_Store_replaceSizes_9 F ?_
    refine ⟨fun q1 => ?_, fun q1 => ?_⟩
    · have := enter h F (xsm.refl h) rfl rfl R (fun _ => rfl) (fun i hi => by rw [hlo i (by omega), hzat i (by omega)]) (fun _ _ => rfl)
      rw [e0] at this
      exact this
    · refine ⟨fun q2 => ?_, fun q2 => ?_⟩
      · omega
      · refine ⟨?_, ?_⟩
        · omega
        · intro F9
          omega
  · have e1 : lf = 1 := by rw [hlf, if_pos (by omega)]
    refine v_Store_replaceSizes_9 F ?_
    refine ⟨fun q1 => ?_, fun q1 => ?_⟩
    · omega
    · refine ⟨fun q2 => ?_, fun q2 => ?_⟩
      · omega
      · refine ⟨?_, ?_⟩
        · omega
        · intro F9
          have := enter _ F9 ((xsm.refl h).st (by omega) (Or.inl (Or.inr rfl))) rfl rfl (R.st8 F h3 h4) (fun k => xpl_oa (by decide)) (fun i hi => ?_) (fun i hi => xpl_ok (by omega))
          · rw [e1] at this
            exact this
          · by_cases w : i = first
            · subst w
              rw [xpl_hit]; exact hmid e1
            · rw [xpl_ok (by omega), hlo i (by omega), hzat i (by omega)]

end
