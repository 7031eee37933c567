/-! ===== number ===== -/
section
def nuF (bs : List Int) (s : Int) : Nat → Int → Int → Option Int
  | 0, _, a => some a
  | m + 1, k, a => if 0 ≤ lat bs (s + k) - 48 ∧ lat bs (s + k) - 48 ≤ 9 then nuF bs s m (k + 1) (a * 10 + (lat bs (s + k) - 48)) else none
/-- the number that a run is, if it is one of at most two digits -/
def nuR (bs : List Int) (s e : Int) : Option Int := if e - s ≤ 2 then nuF bs s (e - s).toNat 0 0 else none
theorem s_QR_takesNumber {G : XG} {d : Nat} {h : XH} {Q : XV → XH → Prop} {X : Nat → XH → Prop} {p s e st : Int} {bs : List Int} (F : xFix h) (R : TapeR h bs) (h8 : xpl h 32 8 = e) (h9 : xpl h 32 9 = s) (h12 : xpl h 32 12 = st) (h7 : xpl h 32 7 = p) (hp : xtg h p = 4) (p0 : 0 ≤ p) (s0 : 0 ≤ s) (se : s < e) (e1 : e ≤ bs.length)
    (hq0 : nuR bs s e = none → Q (xI 0) h)
    (hq1 : ∀ v, nuR bs s e = some v → 0 ≤ v → v ≤ 99 → ∀ h', xFix h' → h' = (if st = 6 then xst (xst h p 7 v) 32 12 10 else xst (xst h p 6 v) 32 12 11) → Q (xI 1) h') : xwp G m_QuestionReader_takesNumber (d + 2) 0 [xR 32, xR 1, xZ, xZ, xZ, xZ] [] h Q X := by
  have hb := R.2.1
  have loop : ∀ (m : Nat) (k a : Int), k + m = e - s → 0 ≤ k → 0 ≤ a → (k = 0 → a = 0) → (k = 1 → a ≤ 9) → (k = 2 → a ≤ 99) → (e - s ≤ 2 → nuF bs s m k a = nuR bs s e) → (2 < e - s → k = 0) → xwp G m_QuestionReader_takesNumber (d + 2) 15 [xR 32, xR 1, xI a, xI (e - s), xI k, xZ] [] h Q X := by
    intro m
    induction m with
    | zero =>
      intro k a ek k0 a0 a1 a2 a3 hv hbig
      have hv2 : some a = nuR bs s e := hv (by omega)
      refine v_QuestionReader_takesNumber_15 F ?_
      refine ⟨fun q1 => ?_, fun q1 => ?_⟩
      · refine ⟨fun q2 => ?_, fun q2 => ?_⟩
        · refine ⟨?_, ?_⟩
          · first | (rw [h7]; exact hp) | exact ⟨by omega, by omega⟩ | omega
          · refine ⟨?_, ?_⟩
            · first | (rw [h7]; exact hp) | exact ⟨by omega, by omega⟩ | omega
            · intro F9
              rw [h7] at F9 ⊢
              exact hq1 a hv2.symm a0 (by omega) _ F9 (by rw [if_pos (by omega)])
        · refine ⟨?_, ?_⟩
          · first | (rw [h7]; exact hp) | exact ⟨by omega, by omega⟩ | omega
          · refine ⟨?_, ?_⟩
            · first | (rw [h7]; exact hp) | exact ⟨by omega, by omega⟩ | omega
            · intro F9
              rw [h7] at F9 ⊢
              exact hq1 a hv2.symm a0 (by omega) _ F9 (by rw [if_neg (by omega)])
      · refine ⟨?_, ?_⟩
        · first | (rw [h7]; exact hp) | exact ⟨by omega, by omega⟩ | omega
        · refine ⟨?_, ?_⟩
          · first | (rw [h7]; exact hp) | exact ⟨by omega, by omega⟩ | omega
          · refine ⟨fun q2 => ?_, fun q2 => ?_⟩
            · omega
            · refine ⟨fun q3 => ?_, fun q3 => ?_⟩
              · omega
              · refine ⟨fun q4 => ?_, fun q4 => ?_⟩
                · refine ⟨?_, ?_⟩
                  · first | (rw [h7]; exact hp) | exact ⟨by omega, by omega⟩ | omega
                  · refine ⟨?_, ?_⟩
                    · first | (rw [h7]; exact hp) | exact ⟨by omega, by omega⟩ | omega
                    · omega
                · omega
    | succ m ih =>
      intro k a ek k0 a0 a1 a2 a3 hv hbig
      have hat := R.at (s + k)
      have hv2 : e - s ≤ 2 → (if 0 ≤ lat bs (s + k) - 48 ∧ lat bs (s + k) - 48 ≤ 9 then nuF bs s m (k + 1) (a * 10 + (lat bs (s + k) - 48)) else none) = nuR bs s e := hv
      have hlr := lat_in (l := bs) (i := s + k) (by omega) (by omega)
      have hby := R.2.2.2 _ (List.mem_of_getElem? hlr)
      refine v_QuestionReader_takesNumber_15 F ?_
      refine ⟨fun q1 => ?_, fun q1 => ?_⟩
      · refine ⟨fun q2 => ?_, fun q2 => ?_⟩
        · refine ⟨?_, ?_⟩
          · first | exact ⟨by omega, by omega⟩ | (rw [h9]; exact ⟨by omega, by omega⟩) | (rw [h9, hat] at *; exact ⟨by omega, by omega⟩) | omega
          · refine ⟨?_, ?_⟩
            · first | exact ⟨by omega, by omega⟩ | (rw [h9]; exact ⟨by omega, by omega⟩) | (rw [h9, hat] at *; exact ⟨by omega, by omega⟩) | omega
            · intro F9
              omega
        · refine ⟨?_, ?_⟩
          · first | exact ⟨by omega, by omega⟩ | (rw [h9]; exact ⟨by omega, by omega⟩) | (rw [h9, hat] at *; exact ⟨by omega, by omega⟩) | omega
          · refine ⟨?_, ?_⟩
            · first | exact ⟨by omega, by omega⟩ | (rw [h9]; exact ⟨by omega, by omega⟩) | (rw [h9, hat] at *; exact ⟨by omega, by omega⟩) | omega
            · intro F9
              omega
      · refine ⟨?_, ?_⟩
        · first | exact ⟨by omega, by omega⟩ | (rw [h9]; exact ⟨by omega, by omega⟩) | (rw [h9, hat] at *; exact ⟨by omega, by omega⟩) | omega
        · refine ⟨?_, ?_⟩
          · first | exact ⟨by omega, by omega⟩ | (rw [h9]; exact ⟨by omega, by omega⟩) | (rw [h9, hat] at *; exact ⟨by omega, by omega⟩) | omega
          · refine ⟨fun q2 => ?_, fun q2 => ?_⟩
            · exact hq0 (by unfold nuR; rw [if_neg (by omega)])
            · refine ⟨fun q3 => ?_, fun q3 => ?_⟩
              · rw [h9, hat] at q3
                rw [if_neg (by omega)] at hv2
                exact hq0 (hv2 (by omega)).symm
              · refine ⟨fun q4 => ?_, fun q4 => ?_⟩
                · refine ⟨?_, ?_⟩
                  · first | exact ⟨by omega, by omega⟩ | (rw [h9]; exact ⟨by omega, by omega⟩) | (rw [h9, hat] at *; exact ⟨by omega, by omega⟩) | omega
                  · refine ⟨?_, ?_⟩
                    · first | exact ⟨by omega, by omega⟩ | (rw [h9]; exact ⟨by omega, by omega⟩) | (rw [h9, hat] at *; exact ⟨by omega, by omega⟩) | omega
                    · rw [h9, hat] at q3 q4
                      rw [if_pos ⟨by omega, by omega⟩] at hv2
                      rw [h9, hat]
                      exact ih (k + 1) _ (by omega) (by omega) (by omega) (fun z => by omega) (fun z => by omega) (fun z => by omega) hv2 (fun z => by omega)
                · rw [h9, hat] at q3 q4
                  rw [if_neg (by omega)] at hv2
                  exact hq0 (hv2 (by omega)).symm
  refine v_QuestionReader_takesNumber_0 F ?_
  refine ⟨?_, ?_⟩
  · rw [h8, h9]; exact ⟨by omega, by omega⟩
  · rw [h8, h9]
    exact loop (e - s).toNat 0 0 (by omega) (Int.le_refl _) (Int.le_refl _) (fun _ => rfl) (fun z => by omega) (fun z => by omega) (fun z => by unfold nuR; rw [if_pos z]) (fun _ => rfl)

end
