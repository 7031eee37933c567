/-! ===== diff ===== -/
section
/-! words are gathered and put in order, each once -/
theorem s_M_gather {G : XG} {d : Nat} {h : XH} {Q : XV → XH → Prop} {X : Nat → XH → Prop} {n fr : Int} {ws : List Int} (F : xFix h) (n0 : 0 ≤ n) (f0 : 0 ≤ fr) (f1 : fr + ws.length ≤ 12000) (nn : n + ws.length ≤ 12000) (hw : ∀ j : Nat, j < ws.length → ws[j]? = some (xpl h 62 (fr + j)))
    (hq : ∀ h', xFix h' → xsm (fun c => c = 64) h h' → xnx h' = xnx h → xsl h' = xsl h → (∀ i, i < n → xpl h' 64 i = xpl h 64 i) → (∀ j : Nat, j < (nz ws).length → (nz ws)[j]? = some (xpl h' 64 (n + j))) → Q (xI (n + (nz ws).length)) h') : xwp G m_M_gather (d + 1) 0 [xR 53, xI n, xI fr, xI ws.length, xZ, xZ] [] h Q X := by
  have hnx := F.nx
  have loop : ∀ (m k : Nat) (h2 : XH), k + m = ws.length → xFix h2 → xsm (fun c => c = 64) h h2 → xnx h2 = xnx h → xsl h2 = xsl h → (∀ i, i < n → xpl h2 64 i = xpl h 64 i) → (∀ j : Nat, j < (nz (ws.take k)).length → (nz (ws.take k))[j]? = some (xpl h2 64 (n + j))) → xwp G m_M_gather (d + 1) 6 [xR 53, xZ, xI fr, xI ws.length, xI (n + (nz (ws.take k)).length), xI (fr + k)] [] h2 Q X := by
    intro m
    induction m with
    | zero =>
      intro k h2 e F2 S2 n2 l2 lo at_
      rw [List.take_of_length_le (by omega)] at at_ ⊢
      refine v_M_gather_6 F2 ?_
      refine ⟨?_, ?_⟩
      · first | exact ⟨by omega, by omega⟩ | omega
      · refine ⟨fun q1 => ?_, fun q1 => ?_⟩
        · exact hq h2 F2 S2 n2 l2 lo at_
        · refine ⟨?_, ?_⟩
          · first | exact ⟨by omega, by omega⟩ | omega
          · refine ⟨?_, ?_⟩
            · first | exact ⟨by omega, by omega⟩ | omega
            · refine ⟨fun q2 => ?_, fun q2 => ?_⟩
              · omega
              · refine ⟨?_, ?_⟩
                · first | exact ⟨by omega, by omega⟩ | omega
                · refine ⟨?_, ?_⟩
                  · first | exact ⟨by omega, by omega⟩ | omega
                  · intro F9
                    omega
    | succ m ih =>
      intro k h2 e F2 S2 n2 l2 lo at_
      have hk := hw k (by omega)
      have v62 : xpl h2 62 (fr + k) = xpl h 62 (fr + k) := S2.pl (by omega) (by decide) _
      have tk : ws.take (k + 1) = ws.take k ++ [xpl h 62 (fr + k)] := by rw [List.take_succ, hk]; rfl
      have nx := nz_app (ws.take k) [xpl h 62 (fr + k)]
      have nl := nz_len (ws.take k)
      rw [List.length_take] at nl
      rw [nz_cons] at nx
      refine v_M_gather_6 F2 ?_
      refine ⟨?_, ?_⟩
      · first | exact ⟨by omega, by omega⟩ | omega
      · refine ⟨fun q1 => ?_, fun q1 => ?_⟩
        · omega
        · refine ⟨?_, ?_⟩
          · first | exact ⟨by omega, by omega⟩ | omega
          · refine ⟨?_, ?_⟩
            · first | exact ⟨by omega, by omega⟩ | omega
            · refine ⟨fun q2 => ?_, fun q2 => ?_⟩
              · rw [v62] at q2
                rw [if_pos q2] at nx
                have e9 : nz (ws.take (k + 1)) = nz (ws.take k) := by rw [tk, nx]; exact List.append_nil _
                have g := ih (k + 1) h2 (by omega) F2 S2 n2 l2 lo (by rw [e9]; exact at_)
                rw [e9, show fr + ((k + 1 : Nat) : Int) = fr + k + 1 by omega] at g
                exact g
              · refine ⟨?_, ?_⟩
                · first | exact ⟨by omega, by omega⟩ | omega
                · refine ⟨?_, ?_⟩
                  · first | exact ⟨by omega, by omega⟩ | omega
                  · intro F9
                    rw [v62] at q2 F9 ⊢
                    rw [if_neg q2] at nx
                    have e9 : nz (ws.take (k + 1)) = nz (ws.take k) ++ [xpl h 62 (fr + k)] := by rw [tk, nx]; rfl
                    have l9 : (nz (ws.take (k + 1))).length = (nz (ws.take k)).length + 1 := by rw [e9, List.length_append]; rfl
                    have g := ih (k + 1) _ (by omega) F9 (S2.st (k := n + (nz (ws.take k)).length) (by omega) (Or.inl rfl)) n2 l2 (fun i hi => by rw [xpl_ok (by omega)]; exact lo i hi) (fun j hj => by
                      rw [l9] at hj
                      rw [e9]
                      by_cases z : j = (nz (ws.take k)).length
                      · rw [z, xpl_hit, List.getElem?_append_right (Nat.le_refl _), Nat.sub_self]; rfl
                      · rw [xpl_ok (by omega), List.getElem?_append_left (by omega)]; exact at_ j (by omega))
                    rw [l9, show fr + ((k + 1 : Nat) : Int) = fr + k + 1 by omega, show n + (((nz (ws.take k)).length + 1 : Nat) : Int) = n + (nz (ws.take k)).length + 1 by omega] at g
                    exact g
  refine v_M_gather_0 F ?_
  have g := loop ws.length 0 h (by omega) F (xsm.refl h) rfl rfl (fun _ _ => rfl) (fun j hj => absurd hj (by show ¬ j < 0; omega))
  rw [show fr + ((0 : Nat) : Int) = fr by omega, show n + ((nz (ws.take 0)).length : Int) = n by show n + ((0 : Nat) : Int) = n; omega] at g
  exact g
theorem s_M_different {G : XG} {d : Nat} {h : XH} {Q : XV → XH → Prop} {X : Nat → XH → Prop} {fr en : Int} (F : xFix h) (f0 : 0 ≤ fr) (f1 : fr ≤ en) (f2 : en ≤ 12000) (f8 : en - fr ≤ 8192) (rn : xnx h + kN 64 (en - fr) 0 ≤ xKC) (rs : xsl h + kS 64 (en - fr) 0 ≤ xKS)
    (hq : ∀ h' to, xFix h' → xsm (fun c => c = 64) h h' → xnx h' ≤ xnx h + kN 64 (en - fr) 0 → xsl h' ≤ xsl h + kS 64 (en - fr) 0 → fr ≤ to → to ≤ en → (∀ i, i < fr → xpl h' 64 i = xpl h 64 i) → (∀ i j, fr ≤ i → i < j → j < to → xpl h' 64 i < xpl h' 64 j) → (∀ w, (∃ i, fr ≤ i ∧ i < to ∧ xpl h' 64 i = w) ↔ ∃ i, fr ≤ i ∧ i < en ∧ xpl h 64 i = w) → Q (xI to) h') : xwp G m_M_different (d + 216) 0 [xR 53, xI fr, xI en, xZ, xZ] [] h Q X := by
  refine v_M_different_0 F ?_
  refine s_sort3 F f0 f1 f2 f8 rn rs (fun hS SS TS nS lS => ?_)
  refine v_M_different_9 SS.1.1 ?_
  have hnx := SS.1.1.nx
  have loop : ∀ (m : Nat) (k to : Int) (h2 : XH), en - k ≤ m → (xFix h2 ∧ xsm (fun c => c = 64) hS h2 ∧ xnx h2 = xnx hS ∧ xsl h2 = xsl hS) → (fr ≤ to ∧ to ≤ k ∧ k ≤ en) → (∀ i, (i < fr ∨ k ≤ i) → xpl h2 64 i = xpl hS 64 i) → (∀ i j, fr ≤ i → i < j → j < to → xpl h2 64 i < xpl h2 64 j) → (∀ w, (∃ i, fr ≤ i ∧ i < to ∧ xpl h2 64 i = w) ↔ ∃ i, fr ≤ i ∧ i < k ∧ xpl hS 64 i = w) → (fr < k → fr < to ∧ xpl h2 64 (to - 1) = xpl hS 64 (k - 1)) → xwp G m_M_different (d + 216) 14 [xR 53, xI fr, xI en, xI to, xI k] [] h2 Q X := by
    intro m
    have stop : ∀ (k to : Int) (h2 : XH), k = en → (xFix h2 ∧ xsm (fun c => c = 64) hS h2 ∧ xnx h2 = xnx hS ∧ xsl h2 = xsl hS) → (fr ≤ to ∧ to ≤ k ∧ k ≤ en) → (∀ i, (i < fr ∨ k ≤ i) → xpl h2 64 i = xpl hS 64 i) → (∀ i j, fr ≤ i → i < j → j < to → xpl h2 64 i < xpl h2 64 j) → (∀ w, (∃ i, fr ≤ i ∧ i < to ∧ xpl h2 64 i = w) ↔ ∃ i, fr ≤ i ∧ i < k ∧ xpl hS 64 i = w) → Q (xI to) h2 := fun k to h2 ek a b c e g => by
      refine hq h2 to a.1 (SS.1.2.trans a.2.1) (by omega) (by omega) b.1 (by omega) (fun i hi => (c i (Or.inl hi)).trans (SS.2.2 i (Or.inl hi))) e (fun w => ?_)
      rw [g w, ek]
      constructor
      · rintro ⟨i, i0, i1, i2⟩
        obtain ⟨j, j0, j1, j2⟩ := SS.mem i0 i1
        exact ⟨j, j0, j1, j2.symm.trans i2⟩
      · rintro ⟨i, i0, i1, i2⟩
        have q := cnR_has (xpl h 64) i0 i1
        rw [← SS.2.1, i2] at q
        exact cnR_mem q
    induction m with
    | zero =>
      intro k to h2 e a b c st g l
      refine v_M_different_14 a.1 ?_
      refine ⟨fun q1 => ?_, fun q1 => ?_⟩
      · exact stop k to h2 (by omega) a b c st g
      · refine ⟨fun q2 => ?_, fun q2 => ?_⟩
        · omega
        · refine ⟨?_, ?_⟩
          · exfalso; omega
          · refine ⟨?_, ?_⟩
            · exfalso; omega
            · refine ⟨?_, ?_⟩
              · exfalso; omega
              · refine ⟨?_, ?_⟩
                · exfalso; omega
                · refine ⟨?_, ?_⟩
                  · exfalso; omega
                  · refine ⟨fun q3 => ?_, fun q3 => ?_⟩
                    · omega
                    · omega
    | succ m ih =>
      intro k to h2 e a b c st g l
      have ck := c k (Or.inr (Int.le_refl _))
      have put : k < en → (fr < k → xpl hS 64 (k - 1) < xpl hS 64 k) → xwp G m_M_different (d + 216) 48 [xR 53, xI fr, xI en, xI to, xI k] [] h2 Q X := fun ke lt => by
        refine v_M_different_48 a.1 ?_
        refine ⟨?_, ?_⟩
        · omega
        · refine ⟨?_, ?_⟩
          · omega
          · refine ⟨?_, ?_⟩
            · omega
            · refine ⟨?_, ?_⟩
              · omega
              · intro F9
                rw [ck] at F9 ⊢
                refine ih (k + 1) (to + 1) _ (by omega) ⟨F9, a.2.1.st (by omega) (Or.inl rfl), a.2.2⟩ ⟨by omega, by omega, by omega⟩ (fun i hi => by rw [xpl_ok (by omega)]; exact c i (by omega)) (fun i j i0 ij jt => ?_) (fun w => ?_) (fun _ => ⟨by omega, by rw [show to + 1 - 1 = to by omega, show k + 1 - 1 = k by omega, xpl_hit]⟩)
                · rw [xpl_ok (show i ≠ to by omega)]
                  by_cases z : j = to
                  · rw [z, xpl_hit]
                    have fk : fr < k := by omega
                    obtain ⟨l1, l2⟩ := l fk
                    have q := lt fk
                    by_cases y : i = to - 1
                    · rw [y, l2]; exact q
                    · have := st i (to - 1) i0 (by omega) (by omega)
                      omega
                  · rw [xpl_ok z]; exact st i j i0 ij (by omega)
                · constructor
                  · rintro ⟨i, i0, i1, i2⟩
                    by_cases z : i = to
                    · rw [z, xpl_hit] at i2; exact ⟨k, by omega, by omega, i2⟩
                    · rw [xpl_ok z] at i2
                      obtain ⟨j, j0, j1, j2⟩ := (g w).mp ⟨i, i0, by omega, i2⟩
                      exact ⟨j, j0, by omega, j2⟩
                  · rintro ⟨i, i0, i1, i2⟩
                    by_cases z : i = k
                    · exact ⟨to, b.1, by omega, by rw [xpl_hit, ← z]; exact i2⟩
                    · obtain ⟨j, j0, j1, j2⟩ := (g w).mpr ⟨i, i0, by omega, i2⟩
                      exact ⟨j, j0, by omega, by rw [xpl_ok (by omega)]; exact j2⟩
      refine v_M_different_14 a.1 ?_
      refine ⟨fun q1 => ?_, fun q1 => ?_⟩
      · exact stop k to h2 (by omega) a b c st g
      · refine ⟨fun q2 => ?_, fun q2 => ?_⟩
        · exact put (by omega) (fun y => by omega)
        · refine ⟨?_, ?_⟩
          · first | exact ⟨by omega, by omega⟩ | (have := l (by omega); omega) | omega
          · refine ⟨?_, ?_⟩
            · first | exact ⟨by omega, by omega⟩ | (have := l (by omega); omega) | omega
            · refine ⟨?_, ?_⟩
              · first | exact ⟨by omega, by omega⟩ | (have := l (by omega); omega) | omega
              · refine ⟨?_, ?_⟩
                · first | exact ⟨by omega, by omega⟩ | (have := l (by omega); omega) | omega
                · refine ⟨?_, ?_⟩
                  · first | exact ⟨by omega, by omega⟩ | (have := l (by omega); omega) | omega
                  · refine ⟨fun q3 => ?_, fun q3 => ?_⟩
                    · obtain ⟨l1, l2⟩ := l (by omega)
                      rw [ck, l2] at q3
                      refine ih (k + 1) to h2 (by omega) a ⟨b.1, by omega, by omega⟩ (fun i hi => c i (by omega)) st (fun w => ?_) (fun _ => ⟨l1, by rw [l2, show k + 1 - 1 = k by omega]; exact q3.symm⟩)
                      rw [g w]
                      constructor
                      · rintro ⟨i, i0, i1, i2⟩; exact ⟨i, i0, by omega, i2⟩
                      · rintro ⟨i, i0, i1, i2⟩
                        by_cases z : i = k
                        · exact ⟨k - 1, by omega, by omega, by rw [← q3, ← z]; exact i2⟩
                        · exact ⟨i, i0, by omega, i2⟩
                    · obtain ⟨l1, l2⟩ := l (by omega)
                      rw [ck, l2] at q3
                      refine put (by omega) (fun fk => ?_)
                      have := TS (k - 1) k (by omega) (by omega) (by omega)
                      omega
  exact loop (en - fr).toNat fr fr hS (by omega) ⟨SS.1.1, xsm.refl hS, rfl, rfl⟩ ⟨Int.le_refl _, Int.le_refl _, f1⟩ (fun _ _ => rfl) (fun i j i0 ij jt => by omega) (fun w => ⟨fun ⟨i, i0, i1, _⟩ => by omega, fun ⟨i, i0, i1, _⟩ => by omega⟩) (fun y => by omega)
/-- how many words the first k texts have -/
def twS (f : List (Txt × Bool)) : Nat → Nat
  | 0 => 0
  | k + 1 => twS f k + (((f[k]?).getD ((0, 0, 0, [], []), false)).1.2.2.2.1.length + ((f[k]?).getD ((0, 0, 0, [], []), false)).1.2.2.2.2.length)
theorem twS_mono (f : List (Txt × Bool)) : ∀ (m k : Nat), twS f k ≤ twS f (k + m)
  | 0, k => Nat.le_refl _
  | m + 1, k => by
    have := twS_mono f m k
    show twS f k ≤ twS f (k + m) + _
    omega
theorem rwsW_len (s : CS) (fl : Int) (st : Nat) : ∀ k : Nat, (rwsW s fl st k).length + twS (fC s) st ≤ twS (fC s) (st + k)
  | 0 => by
    show 0 + twS (fC s) st ≤ twS (fC s) st
    omega
  | k + 1 => by
    have ih := rwsW_len s fl st k
    show (rwsW s fl st k ++ nz (rwT (fA s (st + k)).1 fl)).length + twS (fC s) st ≤ twS (fC s) (st + k) + ((((fC s)[st + k]?).getD ((0, 0, 0, [], []), false)).1.2.2.2.1.length + (((fC s)[st + k]?).getD ((0, 0, 0, [], []), false)).1.2.2.2.2.length)
    rw [List.length_append]
    have a := nz_len (rwT (fA s ((st : Int) + k)).1 fl)
    have e : fA s ((st : Int) + k) = ((fC s)[st + k]?).getD ((0, 0, 0, [], []), false) := by unfold fA; rw [show ((st : Int) + k).toNat = st + k by omega]
    have b : (rwT (fA s ((st : Int) + k)).1 fl).length ≤ (fA s ((st : Int) + k)).1.2.2.2.1.length + (fA s ((st : Int) + k)).1.2.2.2.2.length := by unfold rwT; split <;> omega
    rw [e] at a b ⊢
    omega
theorem kS_mono (n : Nat) {a b : Int} (h : a ≤ b) (h0 : 0 ≤ a) : kS n a 0 ≤ kS n b 0 ∧ kN n a 0 ≤ kN n b 0 := by
  unfold kS kN
  rw [if_pos rfl, if_pos rfl, if_pos rfl]
  by_cases z1 : a < 44
  · rw [if_pos z1, if_pos z1]
    by_cases y1 : b < 44
    · rw [if_pos y1, if_pos y1]; omega
    · rw [if_neg y1, if_neg y1]
      by_cases y2 : b ≤ 4096
      · rw [if_pos y2, if_pos y2]; omega
      · rw [if_neg y2, if_neg y2]; omega
  · have y1 : ¬ b < 44 := by omega
    rw [if_neg z1, if_neg z1, if_neg y1, if_neg y1]
    by_cases z2 : a ≤ 4096
    · rw [if_pos z2, if_pos z2]
      by_cases y2 : b ≤ 4096
      · rw [if_pos y2, if_pos y2]; omega
      · rw [if_neg y2, if_neg y2]; omega
    · have y2 : ¬ b ≤ 4096 := by omega
      rw [if_neg z2, if_neg z2, if_neg y2, if_neg y2]; omega
theorem s_M_differentIn {G : XG} {d : Nat} {h : XH} {Q : XV → XH → Prop} {X : Nat → XH → Prop} {s : CS} {x fl : Int} (F : xFix h) (R : MSR h (fbF (fC s) (bC s)) (zC s) (mC s)) (W : Swf (zC s) (fC s)) (h0 : 0 ≤ x) (h1 : x < (zC s).length) (hf : fl = 0 ∨ fl = 1) {T : Int} (hT : twS (fC s) (fC s).length ≤ T) (T8 : T ≤ 8192) (rn : xnx h + kN 64 T 0 ≤ xKC) (rs : xsl h + kS 64 T 0 ≤ xKS)
    (hq : ∀ h', xFix h' → xsm (fun c => c = 64) h h' → xnx h' ≤ xnx h + kN 64 (rwsW s fl (stA (zC s) x) (szA (zC s) x).toNat).length 0 → xsl h' ≤ xsl h + kS 64 (rwsW s fl (stA (zC s) x) (szA (zC s) x).toNat).length 0 → Q (xI (wvs s fl (stA (zC s) x) (szA (zC s) x).toNat).length) h') : xwp G m_M_differentIn (d + 217) 0 [xR 53, xI x, xI fl, xZ, xZ] [] h Q X := by
  have hnx := F.nx
  have sr := seg_rng W h0 h1
  have tl := R.2.1.2.1
  rw [fb_len] at tl
  have zl := R.2.1.2.2.2.1
  obtain ⟨st, hst⟩ : ∃ st : Nat, (st : Int) = stA (zC s) x := ⟨(stA (zC s) x).toNat, by omega⟩
  obtain ⟨sz, hsz⟩ : ∃ sz : Nat, (sz : Int) = szA (zC s) x := ⟨(szA (zC s) x).toNat, by omega⟩
  have tsz : (szA (zC s) x).toNat = sz := by omega
  rw [tsz, ← hst] at hq
  have bound : ∀ k : Nat, k ≤ sz → ((rwsW s fl st k).length : Int) ≤ T := fun k hk => by
    have a := rwsW_len s fl st k
    have b := twS_mono (fC s) ((fC s).length - (st + k)) (st + k)
    rw [show st + k + ((fC s).length - (st + k)) = (fC s).length by omega] at b
    omega
  have loop : ∀ (m k : Nat) (h2 : XH), k + m = sz → xFix h2 → xsm (fun c => c = 64) h h2 → xnx h2 = xnx h → xsl h2 = xsl h → (∀ j : Nat, j < (rwsW s fl st k).length → (rwsW s fl st k)[j]? = some (xpl h2 64 j)) → xwp G m_M_differentIn (d + 217) 9 [xR 53, xI x, xI fl, xI (rwsW s fl st k).length, xI (st + k)] [] h2 Q X := by
    intro m
    induction m with
    | zero =>
      intro k h2 e F2 S2 n2 l2 at_
      have R2 : MSR h2 (fbF (fC s) (bC s)) (zC s) (mC s) := R.keep (fun k _ => S2.pl (by omega) (by decide) k) (fun c k c1 c2 => S2.pl (by omega) (by omega) k)
      have en := R2.end_ h0 h1
      have ek : k = sz := by omega
      rw [ek] at at_ ⊢
      have bd := bound sz (Nat.le_refl _)
      have km := kS_mono 64 bd (by omega)
      refine v_M_differentIn_9 F2 ?_
      refine ⟨?_, ?_⟩
      · first | omega | (exfalso; omega)
      · refine ⟨?_, ?_⟩
        · first | omega | (exfalso; omega)
        · refine ⟨fun q1 => ?_, fun q1 => ?_⟩
          · refine s_M_different F2 (Int.le_refl _) (by omega) (by omega) (by omega) (by rw [show ((rwsW s fl st sz).length : Int) - 0 = (rwsW s fl st sz).length by omega]; omega) (by rw [show ((rwsW s fl st sz).length : Int) - 0 = (rwsW s fl st sz).length by omega]; omega) (fun h3 to F3 S3 n3 l3 t0 t1 o st3 mem => ?_)
            rw [show ((rwsW s fl st sz).length : Int) - 0 = (rwsW s fl st sz).length by omega] at n3 l3
            refine v_M_differentIn_66 F3 ?_
            obtain ⟨SV, mv⟩ := wvs_in s fl st sz
            have ln := strict_len (g := xpl h3 64) SV t0 st3 (fun w => by
              rw [mem w, mv w]
              constructor
              · rintro ⟨i, i0, i1, i2⟩
                have q := at_ i.toNat (by omega)
                rw [show ((i.toNat : Nat) : Int) = i by omega, i2] at q
                exact List.mem_of_getElem? q
              · intro hw
                obtain ⟨j, hj⟩ := List.mem_iff_getElem?.mp hw
                have jl := (List.getElem?_eq_some_iff.mp hj).1
                have q := at_ j jl
                rw [hj] at q
                exact ⟨j, by omega, by omega, (Option.some.inj q).symm⟩)
            rw [show to = ((wvs s fl st sz).length : Int) by omega]
            exact hq h3 F3 (S2.trans S3) (by omega) (by omega)
          · refine ⟨?_, ?_⟩
            · first | omega | (exfalso; omega)
            · refine ⟨?_, ?_⟩
              · first | omega | (exfalso; omega)
              · omega
    | succ m ih =>
      intro k h2 e F2 S2 n2 l2 at_
      have R2 : MSR h2 (fbF (fC s) (bC s)) (zC s) (mC s) := R.keep (fun k _ => S2.pl (by omega) (by decide) k) (fun c k c1 c2 => S2.pl (by omega) (by omega) k)
      have en := R2.end_ h0 h1
      have tx := fb_at R2 (i := (st : Int) + k) (by omega) (by omega)
      have r9 := R2.1.1 ((st : Int) + k) (by omega) (by omega)
      obtain ⟨wl, ww⟩ := tx.wd hf
      have b3 := tx.2.1.2.2
      have wl2 : (rwT (fA s ((st : Int) + k)).1 fl).length ≤ 200 := by unfold rwT; split <;> omega
      have bs0 : 0 ≤ bsT (fA s ((st : Int) + k)) fl (xpl h2 55 ((st : Int) + k)) ∧ bsT (fA s ((st : Int) + k)) fl (xpl h2 55 ((st : Int) + k)) + (rwT (fA s ((st : Int) + k)).1 fl).length ≤ 12000 := by
        unfold bsT rwT
        rcases hf with y | y
        · rw [y, if_neg (by decide), if_pos rfl]; omega
        · rw [y, if_pos rfl, if_neg (by decide)]; omega
      have bd := bound k (by omega)
      have bd1 := bound (k + 1) (by omega)
      have e9 : rwsW s fl st (k + 1) = rwsW s fl st k ++ nz (rwT (fA s ((st : Int) + k)).1 fl) := rfl
      have l9 : (rwsW s fl st (k + 1)).length = (rwsW s fl st k).length + (nz (rwT (fA s ((st : Int) + k)).1 fl)).length := by rw [e9, List.length_append]
      refine v_M_differentIn_9 F2 ?_
      refine ⟨?_, ?_⟩
      · omega
      · refine ⟨?_, ?_⟩
        · omega
        · refine ⟨fun q1 => ?_, fun q1 => ?_⟩
          · omega
          · refine ⟨?_, ?_⟩
            · omega
            · refine ⟨?_, ?_⟩
              · omega
              · refine p_M_base F2 tx r9.1 r9.2 ?_
                refine v_M_differentIn_34 F2 ?_
                refine ⟨?_, ?_⟩
                · first | exact ⟨by omega, by omega⟩ | omega
                · refine ⟨?_, ?_⟩
                  · first | exact ⟨by omega, by omega⟩ | omega
                  · refine ⟨?_, ?_⟩
                    · first | exact ⟨by omega, by omega⟩ | omega
                    · refine ⟨?_, ?_⟩
                      · first | exact ⟨by omega, by omega⟩ | omega
                      · refine ⟨?_, ?_⟩
                        · first | exact ⟨by omega, by omega⟩ | omega
                        · refine ⟨?_, ?_⟩
                          · first | exact ⟨by omega, by omega⟩ | omega
                          · rw [wl]
                            refine s_M_gather F2 (by omega) bs0.1 bs0.2 (by omega) ww (fun h3 F3 S3 n3 l3 lo3 at3 => ?_)
                            refine v_M_differentIn_53 F3 ?_
                            refine ⟨?_, ?_⟩
                            · exact ⟨by omega, by omega⟩
                            · have g := ih (k + 1) h3 (by omega) F3 (S2.trans S3) (n3.trans n2) (l3.trans l2) (fun j hj => by
                                rw [l9] at hj
                                rw [e9]
                                by_cases z : j < (rwsW s fl st k).length
                                · rw [List.getElem?_append_left z, lo3 j (by omega)]; exact at_ j z
                                · rw [List.getElem?_append_right (by omega), at3 (j - (rwsW s fl st k).length) (by omega)]
                                  exact congrArg some (congrArg (xpl h3 64) (by omega)))
                              rw [l9, show ((st : Int) + ((k + 1 : Nat) : Int)) = (st : Int) + k + 1 by omega, show (((rwsW s fl st k).length + (nz (rwT (fA s ((st : Int) + k)).1 fl)).length : Nat) : Int) = ((rwsW s fl st k).length : Int) + (nz (rwT (fA s ((st : Int) + k)).1 fl)).length by omega] at g
                              exact g
  refine v_M_differentIn_0 F ?_
  refine p_M_startOf F R h0 (by omega) ?_
  refine v_M_differentIn_7 F ?_
  rw [← hst]
  have g := loop sz 0 h (by omega) F (xsm.refl h) rfl rfl (fun j hj => absurd hj (by show ¬ j < 0; omega))
  rw [show (st : Int) + ((0 : Nat) : Int) = st by omega] at g
  exact g
theorem s_M_wordsIn {G : XG} {d : Nat} {h : XH} {Q : XV → XH → Prop} {X : Nat → XH → Prop} {s : CS} {x fl n9 s9 : Int} (F : xFix h) (R : MTS h s) (W : Swf (zC s) (fC s)) {T : Int} (hT : twS (fC s) (fC s).length ≤ T) (T8 : T ≤ 8192) (rn : xnx h + kN 64 T 0 ≤ xKC) (rs : xsl h + kS 64 T 0 ≤ xKS) (hn : kN 64 T 0 ≤ n9) (hs : kS 64 T 0 ≤ s9) (hq : MAT Q xI h (fC s) [3] (cWordsIn s x fl) n9 s9) : xwp G m_M_wordsIn (d + 218) 0 [xR 53, xI x, xI fl] [] h Q X := by
  have z5 := R.2.1.2.1.2.2.1
  have zl := R.2.1.2.1.2.2.2.1
  have T0 : 0 ≤ T := by omega
  have nn := kS_nn 64 (s := T) (b := 0) T0
  unfold cWordsIn at hq
  have bad : ¬ ((0 ≤ x ∧ x < (zC s).length) ∧ 0 ≤ fl ∧ fl < 2) → xwp G m_M_wordsIn (d + 218) 20 [xR 53, xI x, xI fl] [xR 53] h Q X := fun z => by
    rw [if_neg z] at hq
    refine v_M_wordsIn_20 F ?_
    refine v_M_wordsIn_21 F ?_
    refine ⟨fun q1 => ?_, fun q1 => ?_⟩
    · intro F9
      exact hq.rd R (by omega) (by omega) F9
    · refine ⟨?_, ?_⟩
      · decide
      · refine ⟨fun q2 => ?_, fun q2 => ?_⟩
        · intro F9
          exact absurd rfl q1
        · intro F9
          exact absurd rfl q1
  have good : (0 ≤ x ∧ x < (zC s).length) → (fl = 0 ∨ fl = 1) → xwp G m_M_wordsIn (d + 218) 21 [xR 53, xI x, xI fl] [xI 1, xR 53] h Q X := fun hx hf => by
    rw [if_pos ⟨hx, by omega, by omega⟩] at hq
    refine v_M_wordsIn_21 F ?_
    refine ⟨fun q1 => ?_, fun q1 => ?_⟩
    · intro F9
      exact absurd q1 (by decide)
    · refine ⟨?_, ?_⟩
      · decide
      · refine ⟨fun q2 => ?_, fun q2 => ?_⟩
        · intro F9
          exact absurd q2 (by decide)
        · intro F9
          have R2 := R.th (v := 0)
          refine s_M_differentIn F9 R2.2.1 W hx.1 hx.2 hf hT T8 rn rs (fun h3 F3 S3 n3 l3 => ?_)
          have hnx := F9.nx
          have sr := seg_rng W hx.1 hx.2
          have len : ((rwsW s fl (stA (zC s) x) (szA (zC s) x).toNat).length : Int) ≤ T := by
            have a := rwsW_len s fl (stA (zC s) x).toNat (szA (zC s) x).toNat
            have b := twS_mono (fC s) ((fC s).length - ((stA (zC s) x).toNat + (szA (zC s) x).toNat)) ((stA (zC s) x).toNat + (szA (zC s) x).toNat)
            rw [show (stA (zC s) x).toNat + (szA (zC s) x).toNat + ((fC s).length - ((stA (zC s) x).toNat + (szA (zC s) x).toNat)) = (fC s).length by omega] at b
            rw [show (((stA (zC s) x).toNat : Nat) : Int) = stA (zC s) x by omega] at a
            omega
          have km := kS_mono 64 len (by omega)
          refine v_M_wordsIn_33 F3 ?_
          exact hq h3 F3 ⟨R2.1.keep (S3.pl (by omega) (by decide) 2) (fun k => S3.pl (by omega) (by decide) k), R2.2.1.keep (fun k _ => S3.pl (by omega) (by decide) k) (fun c k c1 c2 => S3.pl (by omega) (by omega) k), (S3.pl (by omega) (by decide) 14).trans R2.2.2⟩ (((xsm.refl h).st (by decide) (Or.inl ⟨by decide, by decide⟩)).then S3 (fun c _ w => ⟨by omega, by omega⟩)) (fun k k0 _ _ _ _ _ _ => (S3.pl (by omega) (by decide) k).trans (xpl_ok k0)) (Or.inr ⟨(S3.pl (by omega) (by decide) 26).trans (xpl_ok (by decide)), rfl⟩) ((S3.pl (by omega) (by decide) 0).trans (xpl_hit _ _ _ _)) (by have : xnx (xst h 53 0 0) = xnx h := rfl; omega) (by have : xsl (xst h 53 0 0) = xsl h := rfl; omega)
  refine v_M_wordsIn_0 F ?_
  refine ⟨?_, ?_⟩
  · rw [z5]; exact ⟨by omega, by omega⟩
  · refine ⟨fun q1 => ?_, fun q1 => ?_⟩
    · exact bad (by omega)
    · refine ⟨fun q2 => ?_, fun q2 => ?_⟩
      · exact bad (by omega)
      · refine ⟨fun q3 => ?_, fun q3 => ?_⟩
        · exact good ⟨by omega, by omega⟩ (Or.inl q3)
        · refine ⟨fun q4 => ?_, fun q4 => ?_⟩
          · exact good ⟨by omega, by omega⟩ (Or.inr q4)
          · exact bad (by omega)

end
