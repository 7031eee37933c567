/-! ===== moread ===== -/
section
/-! the model reads a text -/
theorem reF_cut (bs : List Int) : ∀ (m n : Nat) (i : Int), m ≤ n → (sgn (lat bs (i + m)) = 0 ∨ m = n) → reF bs n i = reF bs m i
  | 0, 0, _, _, _ => rfl
  | 0, n + 1, i, _, h => by
    have h : sgn (lat bs (i + ((0 : Nat) : Int))) = 0 := h.resolve_right (by omega)
    rw [show i + ((0 : Nat) : Int) = i by omega] at h
    show (if sgn (lat bs i) = 0 then i else _) = i
    rw [if_pos h]
  | m + 1, 0, _, h, _ => absurd h (by omega)
  | m + 1, n + 1, i, h, h2 => by
    show (if sgn (lat bs i) = 0 then i else reF bs n (i + 1)) = (if sgn (lat bs i) = 0 then i else reF bs m (i + 1))
    rw [reF_cut bs m n (i + 1) (by omega) (by
      rcases h2 with y | y
      · left; rw [← y]; congr 2; omega
      · right; omega)]
theorem re_cut {bs : List Int} {i lim L : Int} (h0 : i ≤ lim) (h1 : lim ≤ L) (h : sgn (lat bs lim) = 0 ∨ lim = L) : re bs i L = re bs i lim := by
  unfold re
  refine reF_cut bs _ _ i (by omega) ?_
  rcases h with y | y
  · left; rw [show i + (((lim - i).toNat : Nat) : Int) = lim by omega]; exact y
  · right; rw [y]
theorem re_lt2 (bs : List Int) {i lim : Int} (h : i < lim) (h2 : ¬ sgn (lat bs i) = 0) : i < re bs i lim := by
  unfold re
  rw [show (lim - i).toNat = (lim - (i + 1)).toNat + 1 by omega]
  show i < (if sgn (lat bs i) = 0 then i else reF bs (lim - (i + 1)).toNat (i + 1))
  rw [if_neg h2]
  have := reF_rng bs (lim - (i + 1)).toNat (i + 1)
  omega
theorem reF_all (bs : List Int) : ∀ (n : Nat) (i k : Int), 0 ≤ k → k < reF bs n i - i → sgn (lat bs (i + k)) ≠ 0
  | 0, i, k, h0, h1 => by
    have h1 : k < i - i := h1
    omega
  | n + 1, i, k, h0, h1 => by
    have h1 : k < (if sgn (lat bs i) = 0 then i else reF bs n (i + 1)) - i := h1
    by_cases z : sgn (lat bs i) = 0
    · rw [if_pos z] at h1; omega
    · rw [if_neg z] at h1
      by_cases w : k = 0
      · rw [w, show i + 0 = i by omega]; exact z
      · have := reF_all bs n (i + 1) (k - 1) (by omega) (by omega)
        rwa [show i + 1 + (k - 1) = i + k by omega] at this
theorem re_all (bs : List Int) {i lim k : Int} (h0 : 0 ≤ k) (h1 : k < re bs i lim - i) : sgn (lat bs (i + k)) ≠ 0 := reF_all bs _ i k h0 h1
theorem re_none (bs : List Int) {i lim : Int} (h2 : sgn (lat bs i) = 0) : re bs i lim = i := by
  unfold re
  cases (lim - i).toNat with
  | zero => rfl
  | succ n =>
    show (if sgn (lat bs i) = 0 then i else _) = i
    rw [if_pos h2]
theorem rowF_fuel (bs : List Int) (lim : Int) : ∀ (n m : Nat) (i : Int), lim - i ≤ n → lim - i ≤ m → rowF bs lim n i = rowF bs lim m i := by
  have out : ∀ (n : Nat) (i : Int), lim ≤ i → rowF bs lim n i = [] := fun n i h => by
    cases n with
    | zero => rfl
    | succ n =>
      rw [rowF_succ]
      have e1 : rs bs i lim = i := by unfold rs; rw [show (lim - i).toNat = 0 by omega]; rfl
      have e2 : re bs i lim = i := by unfold re; rw [show (lim - i).toNat = 0 by omega]; rfl
      rw [e1, e2, if_neg (by omega)]
  intro n
  induction n with
  | zero => intro m i h1 h2; rw [out m i (by omega)]; rfl
  | succ n ih =>
    intro m i h1 h2
    cases m with
    | zero => rw [out (n + 1) i (by omega)]; rfl
    | succ m =>
      rw [rowF_succ, rowF_succ]
      by_cases z : rs bs i lim < re bs (rs bs i lim) lim
      · rw [if_pos z, if_pos z]
        have e := re_gt z
        have hi : i ≤ rs bs i lim := by
          have := rsF_rng bs (lim - i).toNat i
          unfold rs
          omega
        rw [ih m _ (by omega) (by omega)]
      · rw [if_neg z, if_neg z]
theorem rowS_end (bs : List Int) {i lim : Int} (h : lim ≤ i) : rowS bs i lim = [] := by
  unfold rowS
  rw [show (lim - i).toNat = 0 by omega]; rfl
theorem rowS_skip {bs : List Int} {i lim : Int} (h : i < lim) (h2 : sgn (lat bs i) = 0) : rowS bs i lim = rowS bs (i + 1) lim := by
  unfold rowS
  rw [rowF_fuel bs lim (lim - (i + 1)).toNat ((lim - (i + 1)).toNat + 1) (i + 1) (by omega) (by omega), show (lim - i).toNat = (lim - (i + 1)).toNat + 1 by omega, rowF_succ, rowF_succ, rs_step bs h h2]
theorem rowS_here {bs : List Int} {i lim : Int} (h : i < lim) (h2 : ¬ sgn (lat bs i) = 0) : rowS bs i lim = runV bs i (re bs i lim) :: rowS bs (re bs i lim) lim := by
  have hg := re_lt2 bs h h2
  unfold rowS
  rw [show (lim - i).toNat = (lim - (i + 1)).toNat + 1 by omega, rowF_succ, rs_here bs h h2, if_pos hg]
  rw [rowF_fuel bs lim (lim - (i + 1)).toNat (lim - re bs i lim).toNat (re bs i lim) (by omega) (by omega)]
theorem fplF_first (bs : List Int) (w : Int) : ∀ (n : Nat) (p : Int), (∀ j : Int, p ≤ j → j < p + n → lat bs j ≠ w) ∧ fplF bs w n p = 0 ∨ (p ≤ fplF bs w n p ∧ fplF bs w n p < p + n ∧ lat bs (fplF bs w n p) = w ∧ ∀ j : Int, p ≤ j → j < fplF bs w n p → lat bs j ≠ w)
  | 0, p => Or.inl ⟨fun j h0 h1 => by omega, rfl⟩
  | n + 1, p => by
    have e : fplF bs w (n + 1) p = if lat bs p = w then p else fplF bs w n (p + 1) := rfl
    rw [e]
    by_cases z : lat bs p = w
    · rw [if_pos z]; exact Or.inr ⟨Int.le_refl _, by omega, z, fun j h0 h1 => by omega⟩
    · rw [if_neg z]
      rcases fplF_first bs w n (p + 1) with ⟨y1, y2⟩ | ⟨y1, y2, y3, y4⟩
      · refine Or.inl ⟨fun j h0 h1 => ?_, y2⟩
        by_cases e : j = p
        · rw [e]; exact z
        · exact y1 j (by omega) (by omega)
      · refine Or.inr ⟨by omega, by omega, y3, fun j h0 h1 => ?_⟩
        by_cases e : j = p
        · rw [e]; exact z
        · exact y4 j (by omega) h1
/-- the words of a text that is read, as they lie -/
def RdW (h : XH) (r : Int) (W : List Int) (a b : Nat) : Prop := (xpl h 61 (2 * r) = a ∧ xpl h 61 (2 * r + 1) = b) ∧ W.length = a + b ∧ ∀ j : Nat, j < W.length → W[j]? = some (xpl h 62 (200 * r + j))
def RdS (h0 h : XH) (r : Int) (W : List Int) (a b : Nat) : Prop := (xFix h ∧ xsm (fun c => c = 61 ∨ c = 62 ∨ c = 63) h0 h ∧ xnx h = xnx h0 ∧ xsl h = xsl h0) ∧ (∀ k, k ≠ 2 * r → k ≠ 2 * r + 1 → xpl h 61 k = xpl h0 61 k) ∧ (∀ k, (k < 200 * r ∨ 200 * r + 200 ≤ k) → xpl h 62 k = xpl h0 62 k) ∧ RdW h r W a b
theorem cntW_snoc (W : List Int) (w : Int) : cntW (W ++ [w]) (-1) = cntW W (-1) + if w = -1 then 1 else 0 := by
  unfold cntW
  rw [List.count_append]
  by_cases z : w = -1
  · rw [if_pos z, z]; simp
  · rw [if_neg z]; simp [z]
theorem s_M_read {G : XG} {d : Nat} {h : XH} {Q : XV → XH → Prop} {X : Nat → XH → Prop} {r : Int} {bs tt bb : List Int} (F : xFix h) (R : MTR h bs) (r0 : 0 ≤ r) (r1 : r < 60) (ht : tt = rowS bs 0 (fpl bs 124)) (hb : bb = rowS bs (fpl bs 124) bs.length) (hl : tt.length + bb.length ≤ 200)
    (hq : ∀ h', RdS h h' r (tt ++ bb) tt.length bb.length → Q (xI (((tt ++ bb).length : Int) - cntW (tt ++ bb) (-1))) h') : xwp G m_M_read (d + 8) 0 [xR 53, xI r, xZ, xZ, xZ, xZ, xZ] [] h Q X := by
  have hnx := F.nx
  obtain ⟨t1, t2, t3, t4⟩ := R
  have at54 : ∀ i : Int, 0 ≤ i → i < bs.length → xpl h 54 i = lat bs i := fun i i0 i1 => by
    have := t3 i.toNat (by omega)
    rw [lat_in i0 i1, show ((i.toNat : Nat) : Int) = i by omega] at this
    exact (Option.some.inj this).symm
  have keep : ∀ h2, xsm (fun c => c = 61 ∨ c = 62 ∨ c = 63) h h2 → MTR h2 bs := fun h2 S2 => MTR.keep ⟨t1, t2, t3, t4⟩ (S2.pl (by omega) (by decide) 2) (fun k => S2.pl (by omega) (by decide) k)
  have s124 : sgn 124 = 0 := by decide
  -- one step
  have step : ∀ (h2 : XH) (W : List Int) (a b : Nat) (fl i : Int), RdS h h2 r W a b → (fl = 0 ∧ b = 0 ∨ fl = 1) → 0 ≤ i → i < bs.length → (¬ sgn (lat bs i) = 0 → W.length < 200) →
      (sgn (lat bs i) = 0 → xwp G m_M_read (d + 8) 63 [xR 53, xI r, xI (if lat bs i = 124 then 1 else fl), xI (200 * r + W.length), xI (W.length - cntW W (-1)), xI (i + 1), xZ] [] h2 Q X) →
      (¬ sgn (lat bs i) = 0 → ∀ h3, RdS h h3 r (W ++ [runV bs i (re bs i bs.length)]) (if fl = 0 then a + 1 else a) (if fl = 0 then b else b + 1) → xwp G m_M_read (d + 8) 63 [xR 53, xI r, xI fl, xI (200 * r + (W ++ [runV bs i (re bs i bs.length)]).length), xI ((W ++ [runV bs i (re bs i bs.length)]).length - cntW (W ++ [runV bs i (re bs i bs.length)]) (-1)), xI (re bs i bs.length), xZ] [] h3 Q X) →
      xwp G m_M_read (d + 8) 63 [xR 53, xI r, xI fl, xI (200 * r + W.length), xI (W.length - cntW W (-1)), xI i, xZ] [] h2 Q X := by
    intro h2 W a b fl i D hfl i0 i1 hW c1 c2
    obtain ⟨⟨F2, S2, n2, l2⟩, f61, f62, ⟨w1, w2⟩, w3, w4⟩ := D
    have M2 := keep h2 S2
    have e2 : xpl h2 53 2 = bs.length := M2.1
    have a2 : xpl h2 54 i = lat bs i := (S2.pl (by omega) (by decide) i).trans (at54 i i0 i1)
    have cn : 0 ≤ cntW W (-1) ∧ cntW W (-1) ≤ W.length := by
      unfold cntW
      have := List.count_le_length (a := (-1 : Int)) (l := W)
      omega
    have rl := re_rng bs (i := i) (lim := bs.length) (by omega)
    have run : ∀ fl' : Int, fl' = (if lat bs i = 124 then 1 else fl) → xwp G m_M_runLength (d + 7) 0 [xR 53, xI i, xZ] [] h2 (fun v9 h9 => xwp G m_M_read (d + 8) 92 [xR 53, xI r, xI fl', xI (200 * r + W.length), xI (W.length - cntW W (-1)), xI i, xZ] (xpush v9 []) h9 Q X) X := fun fl' hfl' => by
      refine p_M_runLength F2 M2 i0 (by omega) ?_
      by_cases z : sgn (lat bs i) = 0
      · have g := c1 z
        rw [re_none bs z, ← hfl'] at *
        refine v_M_read_92 F2 ?_
        refine ⟨fun q1 => ?_, fun q1 => ?_⟩
        · refine ⟨?_, ?_⟩
          · exact ⟨by omega, by omega⟩
          · exact g
        · omega
      · have lt := re_lt2 bs i1 z
        have n124 : lat bs i ≠ 124 := fun y => z (by rw [y]; exact s124)
        rw [if_neg n124] at hfl'
        have hr : ∀ k, 0 ≤ k → k < re bs i bs.length - i → sgn (lat bs (i + k)) ≠ 0 := fun k k0 k1 => re_all bs k0 k1
        rw [hfl']
        -- the word is stored
        have put : ∀ h3, xFix h3 → xsm (fun c => c = 63) h2 h3 → xnx h3 = xnx h2 → xsl h3 = xsl h2 → xwp G m_M_read (d + 8) 132 [xR 53, xI r, xI fl, xI (200 * r + W.length), xI (W.length - cntW W (-1)), xI i, xI (re bs i bs.length - i)] [xL (runV bs i (re bs i bs.length)), xI (200 * r + W.length), xR 62] h3 Q X := fun h3 F3 S3 n3 l3 => by
          obtain ⟨w, hw⟩ : ∃ w, w = runV bs i (re bs i bs.length) := ⟨_, rfl⟩
          rw [← hw] at c2 ⊢
          have c2 := c2 z
          have hnx2 := F2.nx
          have hW := hW z
          have k61 : ∀ k, xpl h3 61 k = xpl h2 61 k := fun k => S3.pl (by omega) (by decide) k
          have k62 : ∀ k, xpl h3 62 k = xpl h2 62 k := fun k => S3.pl (by omega) (by decide) k
          have snoc := cntW_snoc W w
          have ll : (W ++ [w]).length = W.length + 1 := by rw [List.length_append]; rfl
          rw [snoc, ll] at c2
          have fin : ∀ (e : Int), e = (if w = -1 then 0 else 1) → ∀ (F4 : xFix (xst h3 62 (200 * r + W.length) w)), xwp G m_M_read (d + 8) 153 [xR 53, xI r, xI fl, xI (200 * r + W.length), xZ, xI i, xI (re bs i bs.length - i)] [xI e, xI (W.length - cntW W (-1))] (xst h3 62 (200 * r + W.length) w) Q X := fun e he F4 => by
            have he2 : 0 ≤ e ∧ e ≤ 1 := by rw [he]; split <;> omega
            have v61 : xpl (xst h3 62 (200 * r + W.length) w) 61 (2 * r + fl) = (if fl = 0 then (a : Int) else b) := by
              rw [xpl_oa (by decide), k61]
              rcases hfl with ⟨y, -⟩ | y
              · rw [y, if_pos rfl, show 2 * r + 0 = 2 * r by omega]; exact w1
              · rw [y, if_neg (by decide)]; exact w2
            have v9 : 0 ≤ (if fl = 0 then (a : Int) else b) ∧ (if fl = 0 then (a : Int) else b) ≤ 200 := by split <;> omega
            have fl1 : 0 ≤ fl ∧ fl ≤ 1 := by omega
            refine v_M_read_153 F4 ?_
            refine ⟨?_, ?_⟩
            · first | exact ⟨by omega, by omega⟩ | omega | (rw [v61]; exact ⟨by omega, by omega⟩)
            · refine ⟨?_, ?_⟩
              · first | exact ⟨by omega, by omega⟩ | omega | (rw [v61]; exact ⟨by omega, by omega⟩)
              · refine ⟨?_, ?_⟩
                · first | exact ⟨by omega, by omega⟩ | omega | (rw [v61]; exact ⟨by omega, by omega⟩)
                · refine ⟨?_, ?_⟩
                  · first | exact ⟨by omega, by omega⟩ | omega | (rw [v61]; exact ⟨by omega, by omega⟩)
                  · refine ⟨?_, ?_⟩
                    · first | exact ⟨by omega, by omega⟩ | omega | (rw [v61]; exact ⟨by omega, by omega⟩)
                    · refine ⟨?_, ?_⟩
                      · first | exact ⟨by omega, by omega⟩ | omega | (rw [v61]; exact ⟨by omega, by omega⟩)
                      · refine ⟨?_, ?_⟩
                        · first | exact ⟨by omega, by omega⟩ | omega | (rw [v61]; exact ⟨by omega, by omega⟩)
                        · refine ⟨?_, ?_⟩
                          · first | exact ⟨by omega, by omega⟩ | omega | (rw [v61]; exact ⟨by omega, by omega⟩)
                          · refine ⟨?_, ?_⟩
                            · first | exact ⟨by omega, by omega⟩ | omega | (rw [v61]; exact ⟨by omega, by omega⟩)
                            · refine ⟨?_, ?_⟩
                              · first | exact ⟨by omega, by omega⟩ | omega | (rw [v61]; exact ⟨by omega, by omega⟩)
                              · intro F9
                                rw [v61] at F9 ⊢
                                have go := c2 _ ⟨⟨F9, ((S2.then S3 (fun c _ y => Or.inr (Or.inr y))).st (k := 200 * r + W.length) (v := w) (a := 62) (by omega) (Or.inl (Or.inr (Or.inl rfl)))).st (k := 2 * r + fl) (a := 61) (by omega) (Or.inl (Or.inl rfl)), n3.trans n2, l3.trans l2⟩, fun k k0 k1 => ?_, fun k hk => ?_, ⟨?_, ?_⟩, ?_, fun j hj => ?_⟩
                                · rw [show (200 * r + W.length : Int) + 1 = 200 * r + ((W.length + 1 : Nat) : Int) by omega, show (W.length : Int) - cntW W (-1) + e = ((W.length + 1 : Nat) : Int) - (cntW W (-1) + if w = -1 then 1 else 0) by rw [he]; split <;> omega, show i + (re bs i bs.length - i - 1) + 1 = re bs i bs.length by omega]
                                  exact go
                                · rw [xpl_ok (by omega), xpl_oa (by decide), k61]; exact f61 k k0 k1
                                · rw [xpl_oa (by decide), xpl_ok (by omega), k62]; exact f62 k hk
                                · rcases hfl with ⟨y, y2⟩ | y
                                  · rw [y, if_pos rfl, if_pos rfl, show 2 * r + 0 = 2 * r by omega, xpl_hit]; omega
                                  · rw [y, if_neg (by decide), if_neg (by decide), xpl_ok (by omega), xpl_oa (by decide), k61]; exact w1
                                · rcases hfl with ⟨y, y2⟩ | y
                                  · rw [y, if_pos rfl, if_pos rfl, xpl_ok (by omega), xpl_oa (by decide), k61]; exact w2
                                  · rw [y, if_neg (by decide), if_neg (by decide), xpl_hit]; omega
                                · rw [ll]; split <;> omega
                                · rw [ll] at hj
                                  rw [xpl_oa (by decide)]
                                  by_cases e : j = W.length
                                  · rw [e, xpl_hit, List.getElem?_append_right (Nat.le_refl _), Nat.sub_self]; rfl
                                  · rw [xpl_ok (by omega), k62, List.getElem?_append_left (by omega)]; exact w4 j (by omega)
          refine v_M_read_132 F3 ?_
          refine ⟨?_, ?_⟩
          · omega
          · refine ⟨?_, ?_⟩
            · omega
            · refine ⟨?_, ?_⟩
              · omega
              · refine ⟨?_, ?_⟩
                · omega
                · refine ⟨fun q1 => ?_, fun q1 => ?_⟩
                  · intro F9
                    rw [xpl_hit] at q1
                    exact fin 0 (by rw [if_pos q1]) F9
                  · intro F9
                    rw [xpl_hit] at q1
                    exact fin 1 (by rw [if_neg q1]) F9
        refine v_M_read_92 F2 ?_
        refine ⟨fun q1 => ?_, fun q1 => ?_⟩
        · refine ⟨?_, ?_⟩
          · exact ⟨by omega, by omega⟩
          · omega
        · refine p_M_isSmall F2 M2 i0 (by omega) (by omega) hr ?_
          rw [show i + (re bs i bs.length - i) = re bs i bs.length by omega]
          refine v_M_read_115 F2 ?_
          refine ⟨fun q1 => ?_, fun q1 => ?_⟩
          · have sm := bz0 q1
            refine s_M_wordAt F2 M2 i0 (by omega) (by omega) hr (fun h3 F3 S3 n3 l3 => ?_)
            rw [show i + (re bs i bs.length - i) = re bs i bs.length by omega]
            have e9 : runV bs i (re bs i bs.length) = rwL (runL bs i (re bs i bs.length)) := by unfold runV; rw [if_neg (by rw [sm]; decide)]
            have g := put h3 F3 S3 n3 l3
            rw [e9] at g
            exact g
          · have sm := bz1 q1
            have e9 : runV bs i (re bs i bs.length) = -1 := by unfold runV; rw [if_pos sm]
            have g := put h2 F2 (xsm.refl h2) rfl rfl
            rw [e9] at g
            exact g
    refine v_M_read_63 F2 ?_
    refine ⟨fun q1 => ?_, fun q1 => ?_⟩
    · omega
    · refine ⟨?_, ?_⟩
      · omega
      · refine ⟨?_, ?_⟩
        · omega
        · refine ⟨fun q2 => ?_, fun q2 => ?_⟩
          · rw [a2] at q2
            exact run 1 (by rw [if_pos q2])
          · rw [a2] at q2
            exact run fl (by rw [if_neg q2])
  have stop : ∀ (h2 : XH) (fl i : Int), RdS h h2 r (tt ++ bb) tt.length bb.length → bs.length ≤ i → xwp G m_M_read (d + 8) 63 [xR 53, xI r, xI fl, xI (200 * r + (tt ++ bb).length), xI ((tt ++ bb).length - cntW (tt ++ bb) (-1)), xI i, xZ] [] h2 Q X := fun h2 fl i D hi => by
    have e2 : xpl h2 53 2 = bs.length := (keep h2 D.1.2.1).1
    refine v_M_read_63 D.1.1 ?_
    refine ⟨fun q1 => ?_, fun q1 => ?_⟩
    · exact hq h2 D
    · refine ⟨?_, ?_⟩
      · omega
      · refine ⟨?_, ?_⟩
        · omega
        · refine ⟨fun q2 => ?_, fun q2 => ?_⟩
          · omega
          · omega
  -- behind the first |
  have loop1 : ∀ (n : Nat) (i : Int) (B : List Int) (h2 : XH), bs.length - i ≤ n → 0 ≤ i → RdS h h2 r (tt ++ B) tt.length B.length → B ++ rowS bs i bs.length = bb → xwp G m_M_read (d + 8) 63 [xR 53, xI r, xI 1, xI (200 * r + (tt ++ B).length), xI ((tt ++ B).length - cntW (tt ++ B) (-1)), xI i, xZ] [] h2 Q X := by
    intro n
    induction n with
    | zero =>
      intro i B h2 e i0 D hB
      rw [rowS_end bs (by omega), List.append_nil] at hB
      rw [hB] at D ⊢
      exact stop h2 1 i D (by omega)
    | succ n ih =>
      intro i B h2 e i0 D hB
      by_cases z0 : bs.length ≤ i
      · rw [rowS_end bs (by omega), List.append_nil] at hB
        rw [hB] at D ⊢
        exact stop h2 1 i D (by omega)
      · by_cases z : sgn (lat bs i) = 0
        · refine step h2 _ _ _ 1 i D (Or.inr rfl) i0 (by omega) (fun y => absurd z y) (fun _ => ?_) (fun y => absurd z y)
          rw [show (if lat bs i = 124 then (1 : Int) else 1) = 1 by split <;> rfl]
          rw [rowS_skip (by omega) z] at hB
          exact ih (i + 1) B h2 (by omega) (by omega) D hB
        · have hB0 := hB
          rw [rowS_here (by omega) z] at hB
          have lt := re_lt2 bs (i := i) (lim := bs.length) (by omega) z
          have hl2 : (tt ++ B).length < 200 := by
            have := congrArg List.length hB
            rw [List.length_append, List.length_cons] at this
            rw [List.length_append]
            omega
          refine step h2 _ _ _ 1 i D (Or.inr rfl) i0 (by omega) (fun _ => hl2) (fun y => absurd y z) (fun _ h3 D3 => ?_)
          rw [if_neg (by decide), if_neg (by decide), List.append_assoc] at D3
          rw [List.append_assoc]
          exact ih (re bs i bs.length) (B ++ [runV bs i (re bs i bs.length)]) h3 (by omega) (by omega) (by rw [List.length_append]; exact D3) (by rw [List.append_assoc]; exact hB)
  -- ahead of it
  have loop0 : (fpl bs 124 < bs.length ∧ lat bs (fpl bs 124) = 124 ∧ ∀ j : Int, 0 ≤ j → j < fpl bs 124 → lat bs j ≠ 124) → ∀ (n : Nat) (i : Int) (A : List Int) (h2 : XH), fpl bs 124 - i ≤ n → 0 ≤ i → i ≤ fpl bs 124 → RdS h h2 r A A.length 0 → A ++ rowS bs i (fpl bs 124) = tt → xwp G m_M_read (d + 8) 63 [xR 53, xI r, xI 0, xI (200 * r + A.length), xI (A.length - cntW A (-1)), xI i, xZ] [] h2 Q X := by
    intro hbar
    obtain ⟨p1, p2, p3⟩ := hbar
    obtain ⟨P, hP⟩ : ∃ P, P = fpl bs 124 := ⟨_, rfl⟩
    rw [← hP] at p1 p2 p3 hb ⊢
    have sP : sgn (lat bs P) = 0 := by rw [p2]; exact s124
    intro n
    have atP : ∀ (A : List Int) (h2 : XH), 0 ≤ P → RdS h h2 r A A.length 0 → A ++ rowS bs P P = tt → xwp G m_M_read (d + 8) 63 [xR 53, xI r, xI 0, xI (200 * r + A.length), xI (A.length - cntW A (-1)), xI P, xZ] [] h2 Q X := fun A h2 i0 D hA => by
      rw [rowS_end bs (Int.le_refl _), List.append_nil] at hA
      refine step h2 _ _ _ 0 P D (Or.inl ⟨rfl, rfl⟩) i0 p1 (fun y => absurd sP y) (fun _ => ?_) (fun y => absurd sP y)
      rw [if_pos p2]
      have g := loop1 (bs.length - (P + 1)).toNat (P + 1) [] h2 (by omega) (by omega) (by rw [List.append_nil, ← hA]; exact D) (by rw [hb, rowS_skip p1 sP]; rfl)
      rw [List.append_nil, ← hA] at g
      exact g
    induction n with
    | zero =>
      intro i A h2 e i0 i1 D hA
      have ei : i = P := by omega
      rw [ei] at hA ⊢
      exact atP A h2 (by omega) D hA
    | succ n ih =>
      intro i A h2 e i0 i1 D hA
      by_cases ei : i = P
      · rw [ei] at hA ⊢
        exact atP A h2 (by omega) D hA
      · have ni := p3 i i0 (by omega)
        by_cases z : sgn (lat bs i) = 0
        · refine step h2 _ _ _ 0 i D (Or.inl ⟨rfl, rfl⟩) i0 (by omega) (fun y => absurd z y) (fun _ => ?_) (fun y => absurd z y)
          rw [if_neg ni]
          rw [rowS_skip (by omega) z] at hA
          exact ih (i + 1) A h2 (by omega) (by omega) (by omega) D hA
        · have ec := re_cut (bs := bs) (i := i) (lim := P) (L := bs.length) i1 (by omega) (Or.inl sP)
          have rr := re_rng bs (i := i) (lim := P) i1
          have lt := re_lt2 bs (i := i) (lim := P) (by omega) z
          rw [rowS_here (by omega) z] at hA
          have hl2 : A.length < 200 := by
            have := congrArg List.length hA
            rw [List.length_append, List.length_cons] at this
            omega
          refine step h2 _ _ _ 0 i D (Or.inl ⟨rfl, rfl⟩) i0 (by omega) (fun _ => hl2) (fun y => absurd y z) (fun _ h3 D3 => ?_)
          rw [if_pos rfl, if_pos rfl] at D3
          rw [ec] at D3 ⊢
          exact ih (re bs i P) (A ++ [runV bs i (re bs i P)]) h3 (by omega) (by omega) (by omega) (by rw [List.length_append]; exact D3) (by rw [List.append_assoc]; exact hA)
  -- is there one
  have pre : ∀ (n k : Nat) (fl : Int), k + n = bs.length → (fl = 1 ∧ ∀ j : Int, 0 ≤ j → j < k → lat bs j ≠ 124) ∨ (fl = 0 ∧ ∃ j : Int, 0 ≤ j ∧ j < k ∧ lat bs j = 124) → xwp G m_M_read (d + 8) 4 [xR 53, xI r, xI fl, xI k, xZ, xZ, xZ] [] h Q X := by
    intro n
    induction n with
    | zero =>
      intro k fl e hf
      have ff := fplF_first bs 124 bs.length 0
      have ef : fplF bs 124 bs.length 0 = fpl bs 124 := rfl
      rw [ef] at ff
      refine v_M_read_4 F ?_
      refine ⟨fun q1 => ?_, fun q1 => ?_⟩
      · refine ⟨?_, ?_⟩
        · first | exact ⟨by omega, by omega⟩ | omega
        · refine ⟨?_, ?_⟩
          · first | exact ⟨by omega, by omega⟩ | omega
          · refine ⟨?_, ?_⟩
            · first | exact ⟨by omega, by omega⟩ | omega
            · intro F9
              have D : RdS h (xst (xst h 61 (2 * r) 0) 61 (2 * r + 1) 0) r [] 0 0 := ⟨⟨F9, ((xsm.refl h).st (by omega) (Or.inl (Or.inl rfl))).st (by omega) (Or.inl (Or.inl rfl)), rfl, rfl⟩, fun k k0 k1 => by rw [xpl_ok k1, xpl_ok k0], fun k _ => by rw [xpl_oa (by decide), xpl_oa (by decide)], ⟨by rw [xpl_ok (by omega), xpl_hit]; rfl, by rw [xpl_hit]; rfl⟩, rfl, fun j hj => absurd hj (Nat.not_lt_zero _)⟩
              have z1 : (200 * r + ((([] : List Int)).length : Int)) = 200 * r := by show 200 * r + ((0 : Nat) : Int) = _; omega
              rcases hf with ⟨y1, y2⟩ | ⟨y1, j, j0, j1, j2⟩
              · have p0 : fpl bs 124 = 0 := by
                  rcases ff with ⟨-, y⟩ | ⟨f1, f2, f3, -⟩
                  · exact y
                  · exact absurd f3 (y2 _ f1 (by omega))
                rw [p0] at ht hb
                rw [rowS_end bs (Int.le_refl _)] at ht
                have g := loop1 bs.length 0 [] _ (by omega) (Int.le_refl _) (by rw [ht]; exact D) (by rw [hb]; rfl)
                rw [ht] at g
                have g : xwp G m_M_read (d + 8) 63 [xR 53, xI r, xI 1, xI (200 * r + ((([] : List Int)).length : Int)), xI 0, xI 0, xZ] [] (xst (xst h 61 (2 * r) 0) 61 (2 * r + 1) 0) Q X := g
                rw [z1] at g
                rw [y1]; exact g
              · rcases ff with ⟨y, -⟩ | ⟨f1, f2, f3, f4⟩
                · exact absurd j2 (y j j0 (by omega))
                · have g := loop0 ⟨by omega, f3, fun j j0 j1 => f4 j j0 j1⟩ (fpl bs 124).toNat 0 [] _ (by omega) (Int.le_refl _) f1 D (by rw [ht]; rfl)
                  have g : xwp G m_M_read (d + 8) 63 [xR 53, xI r, xI 0, xI (200 * r + ((([] : List Int)).length : Int)), xI 0, xI 0, xZ] [] (xst (xst h 61 (2 * r) 0) 61 (2 * r + 1) 0) Q X := g
                  rw [z1] at g
                  rw [y1]; exact g
      · refine ⟨?_, ?_⟩
        · first | exact ⟨by omega, by omega⟩ | omega
        · refine ⟨?_, ?_⟩
          · first | exact ⟨by omega, by omega⟩ | omega
          · refine ⟨fun q2 => ?_, fun q2 => ?_⟩
            · omega
            · omega
    | succ n ih =>
      intro k fl e hf
      have a54 := at54 k (by omega) (by omega)
      refine v_M_read_4 F ?_
      refine ⟨fun q1 => ?_, fun q1 => ?_⟩
      · refine ⟨?_, ?_⟩
        · first | exact ⟨by omega, by omega⟩ | omega
        · refine ⟨?_, ?_⟩
          · first | exact ⟨by omega, by omega⟩ | omega
          · refine ⟨?_, ?_⟩
            · first | exact ⟨by omega, by omega⟩ | omega
            · intro F9
              omega
      · refine ⟨?_, ?_⟩
        · first | exact ⟨by omega, by omega⟩ | omega
        · refine ⟨?_, ?_⟩
          · first | exact ⟨by omega, by omega⟩ | omega
          · refine ⟨fun q2 => ?_, fun q2 => ?_⟩
            · rw [a54] at q2
              exact ih (k + 1) 0 (by omega) (Or.inr ⟨rfl, k, by omega, by omega, q2⟩)
            · rw [a54] at q2
              refine ih (k + 1) fl (by omega) ?_
              rcases hf with ⟨y1, y2⟩ | ⟨y1, j, j0, j1, j2⟩
              · refine Or.inl ⟨y1, fun j j0 j1 => ?_⟩
                by_cases ej : j = k
                · rw [ej]; exact q2
                · exact y2 j j0 (by omega)
              · exact Or.inr ⟨y1, j, j0, by omega, j2⟩
  refine v_M_read_0 F ?_
  exact pre bs.length 0 1 (by omega) (Or.inl ⟨rfl, fun j j0 j1 => by omega⟩)

end
