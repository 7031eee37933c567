/-! ===== storew5 ===== -/
section
def Swf (z : List Int) (f : List (Txt × Bool)) : Prop := z.sum = f.length ∧ ∀ x ∈ z, 1 ≤ x
theorem sum_split (z : List Int) (k : Nat) : z.sum = (z.take k).sum + (z.drop k).sum := by
  rw [← List.sum_append, List.take_append_drop]
theorem goneF_len (f : List (Txt × Bool)) (s n : Nat) : ((segF f s n).filter (fun t => !t.2)).length + goneF f s n = (segF f s n).length := by
  unfold goneF
  generalize segF f s n = l
  induction l with
  | nil => rfl
  | cons a l ih =>
    cases w : a.2 <;> simp [w] <;> omega
theorem stA_nat (z : List Int) (k : Nat) : stA z k = (z.take k).sum := by unfold stA; rw [show ((k : Int)).toNat = k by omega]
theorem Swf.merge {z : List Int} {f : List (Txt × Bool)} {first count : Nat} (W : Swf z f) (hz : ∀ x ∈ z, 0 ≤ x ∧ x ≤ 60) (hc : first + count ≤ z.length) : Swf (mgZ z first count f) (mgT z first count f) := by
  obtain ⟨w1, w2⟩ := W
  have g1 := sum_take_le hz first
  have g3 := stA_mono hz first count
  have e1 := stA_nat z first
  have e2 : stA z ((first : Int) + count) = (z.take (first + count)).sum := by
    have := stA_nat z (first + count)
    rwa [show ((first + count : Nat) : Int) = (first : Int) + count by omega] at this
  have e3 := sum_split z (first + count)
  have e4 : 0 ≤ (z.drop (first + count)).sum := by
    have : ∀ l : List Int, (∀ x ∈ l, 0 ≤ x) → 0 ≤ l.sum := by
      intro l hl
      induction l with
      | nil => simp
      | cons a l ih =>
        rw [List.sum_cons]
        have := hl a List.mem_cons_self
        have := ih (fun x hx => hl x (List.mem_cons_of_mem _ hx))
        omega
    exact this _ (fun x hx => (hz x (List.mem_of_mem_drop hx)).1)
  obtain ⟨lo, hlo⟩ : ∃ lo : Nat, lo = (stA z first).toNat := ⟨_, rfl⟩
  obtain ⟨N, hN⟩ : ∃ N : Nat, N = (stA z (first + count) - stA z first).toNat := ⟨_, rfl⟩
  have hle := goneF_le f lo N
  have hln := goneF_len f lo N
  have hsg : (segF f lo N).length = N := by unfold segF; rw [List.length_take, List.length_drop]; omega
  unfold mgZ mgT
  rw [← hlo, ← hN]
  refine ⟨?_, fun x hx => ?_⟩
  · unfold rplS mgF
    rw [List.sum_append, List.sum_append, List.length_append, List.length_append, List.length_take, List.length_drop]
    split
    · simp only [List.sum_cons, List.sum_nil]; omega
    · simp only [List.sum_nil]; omega
  · unfold rplS at hx
    rcases List.mem_append.mp hx with hx | hx
    · rcases List.mem_append.mp hx with hx | hx
      · exact w2 x (List.mem_of_mem_take hx)
      · split at hx
        · rw [List.mem_singleton] at hx; omega
        · cases hx
    · exact w2 x (List.mem_of_mem_drop hx)
theorem Swf.len {z : List Int} {f : List (Txt × Bool)} (W : Swf z f) : z.length ≤ f.length := by
  obtain ⟨w1, w2⟩ := W
  have : ∀ l : List Int, (∀ x ∈ l, 1 ≤ x) → (l.length : Int) ≤ l.sum := by
    intro l hl
    induction l with
    | nil => simp
    | cons a l ih =>
      rw [List.sum_cons, List.length_cons]
      have := hl a List.mem_cons_self
      have := ih (fun x hx => hl x (List.mem_cons_of_mem _ hx))
      omega
  have := this z w2
  omega
theorem mgT_len (z : List Int) (first count : Nat) (f : List (Txt × Bool)) : (mgT z first count f).length ≤ f.length := by
  unfold mgT mgF
  rw [List.length_append, List.length_append, List.length_take, List.length_drop]
  have := goneF_len f (stA z first).toNat (stA z (first + count) - stA z first).toNat
  have h9 : (segF f (stA z first).toNat (stA z (first + count) - stA z first).toNat).length ≤ f.length - (stA z first).toNat := by
    unfold segF; rw [List.length_take, List.length_drop]; omega
  have h8 : (segF f (stA z first).toNat (stA z (first + count) - stA z first).toNat).length ≤ (stA z (first + count) - stA z first).toNat := by
    unfold segF; rw [List.length_take]; omega
  omega
theorem f3_lt (z : List Int) (h : f3 z ≠ -1) : 0 ≤ f3 z ∧ f3 z + 3 ≤ z.length := by
  have := f3F_rng z (z.length - 2) 0 (by decide)
  unfold f3 at *
  omega
def mwF : Nat → List Int → List (Txt × Bool) → Int → List Int × List (Txt × Bool) × Int
  | 0, z, f, m => (z, f, m)
  | n + 1, z, f, m => if f3 z = -1 then (z, f, m) else mwF n (mgZ z (f3 z).toNat 3 f) (mgT z (f3 z).toNat 3 f) (m + 1)
theorem s_Store_mergeWhereDue {G : XG} {d : Nat} {h : XH} {Q : XV → XH → Prop} {X : Nat → XH → Prop} {bp fp : List Int} {b : List Txt} {f : List (Txt × Bool)} {z : List Int} {m : Int} (F : xFix h) (R : StoreR h bp fp b f z m) (W : Swf z f) (hm : 0 ≤ m) (hm2 : m ≤ 900000)
    (hq : ∀ h' fp', xFix h' → xsm (STW h) h h' → xnx h' = xnx h → xsl h' = xsl h → StoreR h' bp fp' b (mwF 60 z f m).2.1 (mwF 60 z f m).1 (mwF 60 z f m).2.2 → Swf (mwF 60 z f m).1 (mwF 60 z f m).2.1 → Q xN h') : xwp G m_Store_mergeWhereDue (d + 6) 0 [xR 5, xZ, xZ] [] h Q X := by
  generalize hr : mwF 60 z f m = r at hq
  have loop : ∀ (n : Nat) (k : Int) (fp2 : List Int) (f2 : List (Txt × Bool)) (z2 : List Int) (m2 : Int) (h2 : XH), 0 ≤ k → k + n = 60 → xFix h2 → xsm (STW h) h h2 → xnx h2 = xnx h → xsl h2 = xsl h → StoreR h2 bp fp2 b f2 z2 m2 → Swf z2 f2 → m2 = m + k → mwF n z2 f2 m2 = r → xwp G m_Store_mergeWhereDue (d + 6) 7 [xR 5, xI (f3 z2), xI k] [] h2 Q X := by
    intro n
    induction n with
    | zero =>
      intro k fp2 f2 z2 m2 h2 k0 k1 F2 e2 n2 l2 R2 W2 hmk hw
      have hw' : (z2, f2, m2) = r := hw
      rw [← hw'] at hq
      have q := hq h2 fp2 F2 e2 n2 l2 R2 W2
      refine v_Store_mergeWhereDue_7 F2 ?_
      refine ⟨fun q1 => ?_, fun q1 => ?_⟩
      · exact q
      · refine ⟨fun q2 => ?_, fun q2 => ?_⟩
        · exact q
        · omega
    | succ n ih =>
      intro k fp2 f2 z2 m2 h2 k0 k1 F2 e2 n2 l2 R2 W2 hmk hw
      unfold mwF at hw
      refine v_Store_mergeWhereDue_7 F2 ?_
      refine ⟨fun q1 => ?_, fun q1 => ?_⟩
      · omega
      · refine ⟨fun q2 => ?_, fun q2 => ?_⟩
        · rw [if_pos q2] at hw
          rw [← hw] at hq
          exact hq h2 fp2 F2 e2 n2 l2 R2 W2
        · rw [if_neg q2] at hw
          have g := f3_lt z2 q2
          have := s_Store_mergeFrom (G := G) (d := d) (Q := fun v9 h9 => xwp G m_Store_mergeWhereDue (d + 6) 24 [xR 5, xZ, xI k] (xpush v9 []) h9 Q X) (X := X) (first := (f3 z2).toNat) (count := 3) F2 R2 (by decide) (by omega) W2.1 (by omega) (by omega) (fun h3 fp3 F3 e3 n3 l3 R3 => ?_)
          · rw [show (((f3 z2).toNat : Nat) : Int) = f3 z2 by omega] at this
            exact this
          · refine v_Store_mergeWhereDue_24 F3 ?_
            refine ⟨?_, ?_⟩
            · first | exact R3.ok | exact ⟨by omega, by omega⟩
            · refine ⟨?_, ?_⟩
              · first | exact R3.ok | exact ⟨by omega, by omega⟩
              · rw [R3.ez]
                exact ih (k + 1) fp3 _ _ _ h3 (by omega) (by omega) F3 (e2.then e3 (fun c hc w => w.back e2 hc)) (by omega) (by omega) R3 (W2.merge R2.zmem (by omega)) (by omega) hw
  refine v_Store_mergeWhereDue_0 F ?_
  refine ⟨?_, ?_⟩
  · exact R.ok
  · rw [R.ez]
    exact loop 60 0 fp f z m h (by decide) (by decide) F (xsm.refl h) rfl rfl R W (by omega) hr
theorem mkF_list {h : XH} {f : List (Txt × Bool)} (p0 : stok h) (hf : filL h = f) (s : Nat) : ∀ k : Nat, s + k ≤ f.length → mkF h s k = goneF f s k
  | 0, _ => rfl
  | k + 1, hk => by
    have ih := mkF_list p0 hf s k (by omega)
    have hl := filL_len h
    rw [hf] at hl
    have hat : f[s + k]? = some (f[s + k]'(by omega)) := List.getElem?_eq_getElem (by omega)
    have h2 := filL_at (h := h) (i := s + k) (by omega)
    rw [hf, hat] at h2
    have h3 := Option.some.inj h2
    have hfat : fat h ((s : Int) + k) = alg h 7 ((s + k : Nat) : Int) := by
      unfold fat
      rw [if_pos ⟨by omega, by omega⟩]
      exact congrArg (alg h 7) (by omega)
    unfold mkF
    rw [ih, hfat]
    by_cases w : xpl h (alg h 7 ((s + k : Nat) : Int)) 5 = 0
    · rw [if_pos w, goneF_keep hat (by rw [h3]; exact decide_eq_false (fun z => z w))]; omega
    · rw [if_neg w]
      unfold goneF
      rw [segF_succ hat, List.filter_append]
      have : (f[s + k]'(by omega)).2 = true := by rw [h3]; exact decide_eq_true w
      simp [this]
/-- all segments made one -/
def maG (z : List Int) (f : List (Txt × Bool)) : Int := if z.length = 0 ∨ (z.length = 1 ∧ goneF f 0 f.length = 0) then 0 else mgG z 0 z.length f
def maT (z : List Int) (f : List (Txt × Bool)) : List (Txt × Bool) := if z.length = 0 ∨ (z.length = 1 ∧ goneF f 0 f.length = 0) then f else mgT z 0 z.length f
def maZ (z : List Int) (f : List (Txt × Bool)) : List Int := if z.length = 0 ∨ (z.length = 1 ∧ goneF f 0 f.length = 0) then z else mgZ z 0 z.length f
def maM (z : List Int) (f : List (Txt × Bool)) (m : Int) : Int := if z.length = 0 ∨ (z.length = 1 ∧ goneF f 0 f.length = 0) then m else m + 1
theorem s_Store_mergeEverything {G : XG} {d : Nat} {h : XH} {Q : XV → XH → Prop} {X : Nat → XH → Prop} {bp fp : List Int} {b : List Txt} {f : List (Txt × Bool)} {z : List Int} {m : Int} (F : xFix h) (R : StoreR h bp fp b f z m) (W : Swf z f) (hm : 0 ≤ m) (hm2 : m ≤ 900000)
    (hq : ∀ h' fp', xFix h' → xsm (STW h) h h' → xnx h' = xnx h → xsl h' = xsl h → StoreR h' bp fp' b (maT z f) (maZ z f) (maM z f m) → Swf (maZ z f) (maT z f) → Q (xI (maG z f)) h') : xwp G m_Store_mergeEverything (d + 6) 0 [xR 5] [] h Q X := by
  have hz := R.2.2.2.2.1
  have hzm := R.zmem
  have mg : ¬ (z.length = 0 ∨ (z.length = 1 ∧ goneF f 0 f.length = 0)) → xwp G m_Store_mergeFrom (d + 5) 0 [xR 5, xI 0, xI (xpl h 5 4), xZ, xZ, xZ, xZ] [] h (fun v9 h9 => xwp G m_Store_mergeEverything (d + 6) 34 [xZ] (xpush v9 []) h9 Q X) X := by
    intro hn
    unfold maT maZ maM maG at hq
    rw [if_neg hn, if_neg hn, if_neg hn, if_neg hn] at hq
    have := s_Store_mergeFrom (G := G) (d := d) (Q := fun v9 h9 => xwp G m_Store_mergeEverything (d + 6) 34 [xZ] (xpush v9 []) h9 Q X) (X := X) (first := 0) (count := z.length) F R (by omega) (by omega) W.1 hm (by omega) (fun h3 fp3 F3 e3 n3 l3 R3 => ?_)
    · rw [hz.1]; exact this
    · refine v_Store_mergeEverything_34 F3 ?_
      exact hq h3 fp3 F3 e3 n3 l3 R3 (W.merge hzm (by omega))
  have no : (z.length = 0 ∨ (z.length = 1 ∧ goneF f 0 f.length = 0)) → Q (xI 0) h := by
    intro hy
    unfold maT maZ maM maG at hq
    rw [if_pos hy, if_pos hy, if_pos hy, if_pos hy] at hq
    exact hq h fp F (xsm.refl h) rfl rfl R W
  have hmk : z.length = 1 → mkH h 0 = goneF f 0 f.length := fun h1 => by
    obtain ⟨x, rfl⟩ := List.length_eq_one_iff.mp h1
    have hx : x = f.length := by have := W.1; simpa using this
    unfold mkH
    rw [R.ez]
    have e1 : stA [x] 0 = ((0 : Nat) : Int) := rfl
    have e2 : szA [x] 0 = x := rfl
    rw [e1, e2, mkF_list R.ok R.ef 0 _ (by omega), hx]
    congr 1
  refine v_Store_mergeEverything_0 F ?_
  refine ⟨fun q1 => ?_, fun q1 => ?_⟩
  · exact no (Or.inl (by omega))
  · refine ⟨fun q2 => ?_, fun q2 => ?_⟩
    · refine ⟨?_, ?_⟩
      · exact R.ok
      · refine ⟨fun q3 => ?_, fun q3 => ?_⟩
        · have h1 : z.length = 1 := by omega
          rw [hmk h1] at q3
          exact no (Or.inr ⟨h1, by omega⟩)
        · have h1 : z.length = 1 := by omega
          rw [hmk h1] at q3
          exact mg (by omega)
    · exact mg (by omega)

end
