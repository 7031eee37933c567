/-! ===== words ===== -/
section
/-! words are in range -/
theorem p37_nat (k : Nat) (h : k ≤ 12) : p37 (k : Int) = 37 ^ k := by
  unfold p37
  rw [if_neg (by omega), if_neg (by omega)]
  rw [show ((k : Int)).toNat = k by omega]
theorem pow37_le : ∀ k : Nat, k ≤ 12 → (1 : Int) ≤ 37 ^ k ∧ (37 : Int) ^ k ≤ 6582952005840035281 := by
  intro k hk
  have key : ∀ i : Fin 13, (1 : Int) ≤ 37 ^ i.val ∧ (37 : Int) ^ i.val ≤ 6582952005840035281 := by decide +kernel
  exact key ⟨k, by omega⟩
theorem wvF_rng {ls : List Int} : ∀ k : Nat, k ≤ 12 → 0 ≤ wvF ls k ∧ wvF ls k + 37 ^ (12 - k) ≤ 6582952005840035281 ∧ (0 < k → 0 < sgn (ls[0]?.getD 0) → 0 < wvF ls k)
  | 0, _ => ⟨Int.le_refl _, by show (0 : Int) + 37 ^ 12 ≤ _; decide, fun y => absurd y (Nat.lt_irrefl 0)⟩
  | k + 1, hk => by
    obtain ⟨a, b, c⟩ := wvF_rng (ls := ls) k (by omega)
    have hs := sgn_rng (ls[k]?.getD 0)
    have e : wvF ls (k + 1) = wsg (wvF ls k) k (sgn (ls[k]?.getD 0)) := rfl
    have ep : p37 (11 - (k : Int)) = 37 ^ (11 - k) := by
      rw [show (11 : Int) - (k : Int) = ((11 - k : Nat) : Int) by omega]
      exact p37_nat _ (by omega)
    have e12 : (37 : Int) ^ (12 - k) = 37 ^ (11 - k) * 37 := by rw [show 12 - k = 11 - k + 1 by omega]; exact Int.pow_succ _ _
    have hp := pow37_le (11 - k) (by omega)
    obtain ⟨P, hP⟩ : ∃ P : Int, P = 37 ^ (11 - k) := ⟨_, rfl⟩
    obtain ⟨S, hS⟩ : ∃ S : Int, S = sgn (ls[k]?.getD 0) := ⟨_, rfl⟩
    rw [← hP] at ep e12 hp
    rw [← hS] at hs e
    have m1 : S * P ≤ 36 * P := Int.mul_le_mul_of_nonneg_right hs.2 (by omega)
    have m0 : 0 ≤ S * P := Int.mul_nonneg hs.1 (by omega)
    rw [e12] at b
    have e2 : wsg (wvF ls k) k S = wvF ls k + S * P := by
      unfold wsg
      rw [ep, xw64_id (show xlR (S * P) by exact ⟨by omega, by omega⟩), xw64_id (show xlR (wvF ls k + S * P) by exact ⟨by omega, by omega⟩)]
    rw [e, e2, show 12 - (k + 1) = 11 - k by omega, ← hP]
    refine ⟨by omega, by omega, fun _ y => ?_⟩
    by_cases z : k = 0
    · subst z
      rw [← hS] at y
      have : 1 * P ≤ S * P := Int.mul_le_mul_of_nonneg_right (by omega) (by omega)
      omega
    · have := c (by omega) y
      omega
theorem wsg_rng {ls : List Int} {k : Nat} (hk : k ≤ 11) (s : Int) (h0 : 0 ≤ s) (h1 : s ≤ 36) (hf : 0 < k) (hy : 0 < sgn (ls[0]?.getD 0)) : 0 < wsg (wvF ls k) k s ∧ wsg (wvF ls k) k s < 6582952005840035281 := by
  obtain ⟨a, b, c⟩ := wvF_rng (ls := ls) k (by omega)
  have c := c hf hy
  have ep : p37 (11 - (k : Int)) = 37 ^ (11 - k) := by
    rw [show (11 : Int) - (k : Int) = ((11 - k : Nat) : Int) by omega]
    exact p37_nat _ (by omega)
  have e12 : (37 : Int) ^ (12 - k) = 37 ^ (11 - k) * 37 := by rw [show 12 - k = 11 - k + 1 by omega]; exact Int.pow_succ _ _
  have hp := pow37_le (11 - k) (by omega)
  obtain ⟨P, hP⟩ : ∃ P : Int, P = 37 ^ (11 - k) := ⟨_, rfl⟩
  rw [← hP] at ep e12 hp
  have m1 : s * P ≤ 36 * P := Int.mul_le_mul_of_nonneg_right h1 (by omega)
  have m0 : 0 ≤ s * P := Int.mul_nonneg h0 (by omega)
  rw [e12] at b
  have e2 : wsg (wvF ls k) k s = wvF ls k + s * P := by
    unfold wsg
    rw [ep, xw64_id (show xlR (s * P) by exact ⟨by omega, by omega⟩), xw64_id (show xlR (wvF ls k + s * P) by exact ⟨by omega, by omega⟩)]
  rw [e2]
  exact ⟨by omega, by omega⟩
theorem rwL_rng {ls : List Int} (h0 : 0 < ls.length) (h1 : ls.length ≤ 12) (hy : 0 < sgn (ls[0]?.getD 0)) : 0 < rwL ls ∧ rwL ls < 6582952005840035281 := by
  have wv : ∀ k : Nat, 0 < k → k ≤ 12 → 0 < wvF ls k ∧ wvF ls k < 6582952005840035281 := fun k k0 k1 => by
    obtain ⟨a, b, c⟩ := wvF_rng (ls := ls) k k1
    have := pow37_le (12 - k) (by omega)
    exact ⟨c k0 hy, by omega⟩
  have len : ∀ cs, endsW ls cs = true → cs.length ≤ ls.length := fun cs e => by
    unfold endsW at e
    rw [Bool.and_eq_true] at e
    exact of_decide_eq_true e.1
  unfold rwL
  split
  · rename_i z
    exact wsg_rng (by omega) _ (sgn_rng 121).1 (sgn_rng 121).2 (by omega) hy
  · split
    · rename_i z
      have z := len _ z
      have z : 4 ≤ ls.length := z
      exact wv _ (by omega) (by omega)
    · split
      · rename_i z
        exact wv _ (by omega) (by omega)
      · split
        · rename_i z
          exact wv _ (by omega) (by omega)
        · split
          · rename_i z
            exact wv _ (by omega) (by omega)
          · exact wv _ h0 h1
theorem byt_sgn {b : Int} (h : sgn b ≠ 0) : sgn (byt (sgn b)) = sgn b := by
  have key : ∀ i : Fin 37, i.val ≠ 0 → sgn (byt (i.val : Int)) = (i.val : Int) := by decide +kernel
  have r := sgn_rng b
  have h1 := key ⟨(sgn b).toNat, by omega⟩ (by show (sgn b).toNat ≠ 0; omega)
  have h1 : sgn (byt (((sgn b).toNat : Nat) : Int)) = (((sgn b).toNat : Nat) : Int) := h1
  rwa [show (((sgn b).toNat : Nat) : Int) = sgn b by omega] at h1
theorem runL_at {bs : List Int} {s e : Int} {k : Nat} (hk : (k : Int) < min (e - s) 12) : (runL bs s e)[k]? = some (byt (sgn (lat bs (s + k)))) := by
  unfold runL
  rw [List.getElem?_map, List.getElem?_range (by omega)]; rfl
/-- the word of a run that begins at s -/
theorem rwL_run {bs : List Int} {s e : Int} (h : s < e) (hs : sgn (lat bs s) ≠ 0) : 0 < rwL (runL bs s e) ∧ rwL (runL bs s e) < 6582952005840035281 := by
  have hl := runL_len (bs := bs) (s := s) (e := e) (by omega)
  refine rwL_rng (by omega) (by omega) ?_
  rw [runL_at (k := 0) (by omega), show s + ((0 : Nat) : Int) = s by omega]
  show 0 < sgn (byt (sgn (lat bs s)))
  rw [byt_sgn hs]
  have := sgn_rng (lat bs s)
  omega
/-- where a run is sought, one begins or there is none -/
theorem rs_sgn {bs : List Int} {i lim : Int} (h : i ≤ lim) (h2 : rs bs i lim < lim) : sgn (lat bs (rs bs i lim)) ≠ 0 := by
  have key : ∀ (n : Nat) (i : Int), i + n = lim → rsF bs n i < lim → sgn (lat bs (rsF bs n i)) ≠ 0 := by
    intro n
    induction n with
    | zero => intro i e y; have y : i < lim := y; omega
    | succ n ih =>
      intro i e y
      have e2 : rsF bs (n + 1) i = if sgn (lat bs i) = 0 then rsF bs n (i + 1) else i := rfl
      rw [e2] at y ⊢
      by_cases z : sgn (lat bs i) = 0
      · rw [if_pos z] at y ⊢; exact ih (i + 1) (by omega) y
      · rw [if_neg z]; exact z
  exact key (lim - i).toNat i (by omega) h2
theorem re_gt {bs : List Int} {i lim : Int} (h : i < re bs i lim) : i < lim := by
  by_cases z : i < lim
  · exact z
  · unfold re at h
    rw [show (lim - i).toNat = 0 by omega] at h
    have h : i < i := h
    omega
theorem rowS_ok (bs : List Int) (i lim : Int) : ∀ w ∈ rowS bs i lim, WdOK w := by
  have key : ∀ (n : Nat) (i : Int), ∀ w ∈ rowF bs lim n i, WdOK w := by
    intro n
    induction n with
    | zero => intro i w hw; exact absurd hw List.not_mem_nil
    | succ n ih =>
      intro i w hw
      rw [rowF_succ] at hw
      by_cases z : rs bs i lim < re bs (rs bs i lim) lim
      · rw [if_pos z] at hw
        rcases List.mem_cons.mp hw with y | y
        · rw [y]
          have h1 := re_gt z
          unfold runV
          split
          · exact Or.inl rfl
          · refine Or.inr (rwL_run z ?_)
            by_cases z2 : i ≤ lim
            · exact rs_sgn z2 h1
            · have e : rs bs i lim = i := by unfold rs; rw [show (lim - i).toNat = 0 by omega]; rfl
              omega
        · exact ih _ w y
      · rw [if_neg z] at hw; exact absurd hw List.not_mem_nil
  exact key _ i
theorem sat_nn {w : Int} (h : 0 ≤ w) (p : Int) : 0 ≤ sat w p ∧ sat w p ≤ 36 := by
  have := sat_rng w p
  refine ⟨?_, this.2⟩
  unfold sat
  exact Int.tmod_nonneg _ (Int.tdiv_nonneg h (by have := p37_pos (11 - p); omega))
/-- two rows of a tape cut at a place: together at most 200 -/
def lnR (bs : List Int) (i lim : Int) : Int := (rowS bs i lim).length
theorem rowF_len (bs : List Int) (lim : Int) : ∀ (n : Nat) (i : Int), i ≤ lim → 2 * ((rowF bs lim n i).length : Int) ≤ lim - i + 1 := by
  intro n
  induction n with
  | zero => intro i h; show 2 * ((0 : Nat) : Int) ≤ _; omega
  | succ n ih =>
    intro i h
    rw [rowF_succ]
    by_cases z : rs bs i lim < re bs (rs bs i lim) lim
    · rw [if_pos z, List.length_cons]
      have h1 := rs_rng bs h
      have h2 := re_rng bs (i := rs bs i lim) (lim := lim) h1.2
      have := ih (re bs (rs bs i lim) lim) h2.2
      by_cases y : n = 0
      · subst y
        have : (rowF bs lim 0 (re bs (rs bs i lim) lim)).length = 0 := rfl
        omega
      · obtain ⟨m, rfl⟩ : ∃ m, n = m + 1 := ⟨n - 1, by omega⟩
        -- behind a run comes no run
        by_cases y2 : re bs (rs bs i lim) lim < lim
        · have e0 : sgn (lat bs (re bs (rs bs i lim) lim)) = 0 := by
            have key : ∀ (n : Nat) (i : Int), i + n = lim → reF bs n i < lim → sgn (lat bs (reF bs n i)) = 0 := by
              intro n
              induction n with
              | zero => intro i e y; have y : i < lim := y; omega
              | succ n ih =>
                intro i e y
                have e2 : reF bs (n + 1) i = if sgn (lat bs i) = 0 then i else reF bs n (i + 1) := rfl
                rw [e2] at y ⊢
                by_cases z : sgn (lat bs i) = 0
                · rw [if_pos z]; exact z
                · rw [if_neg z] at y ⊢; exact ih (i + 1) (by omega) y
            exact key (lim - rs bs i lim).toNat (rs bs i lim) (by omega) y2
          have e1 : rowF bs lim (m + 1) (re bs (rs bs i lim) lim) = rowF bs lim (m + 1) (re bs (rs bs i lim) lim + 1) := by
            rw [rowF_succ, rowF_succ, rs_step bs y2 e0]
          rw [e1]
          have := ih (re bs (rs bs i lim) lim + 1) (by omega)
          omega
        · have e2 : re bs (rs bs i lim) lim = lim := by omega
          rw [e2] at this ⊢
          have e3 : rowF bs lim (m + 1) lim = [] := by
            rw [rowF_succ, rs_lim, if_neg]
            unfold re
            rw [show (lim - lim).toNat = 0 by omega]
            show ¬ lim < lim
            omega
          rw [e3]
          show 2 * (((0 + 1 : Nat)) : Int) ≤ _
          omega
    · rw [if_neg z]; show 2 * ((0 : Nat) : Int) ≤ _; omega

end
