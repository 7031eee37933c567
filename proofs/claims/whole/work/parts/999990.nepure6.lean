/-! ===== nepure6 ===== -/
section
/-! near words: the model's count says whether its window holds all -/
theorem metM_la {ws row : List Int} {wd s : Nat} : metM ws row wd s = true ↔ laF (bgL 0 ws) (wnM row wd s) = 0 := by
  rw [laF_0]
  unfold metM
  rw [decide_eq_true_iff]
  have e := bgL_words ws 0
  have mem : ∀ w, w ∈ (bgL 0 ws).map (·.1) ↔ w ∈ ws ∧ w ≠ 0 := fun w => by
    rw [e, List.mem_filter, decide_eq_true_iff]
  have cnt : ∀ w, w ≠ 0 → ((bgL 0 ws).map (·.1)).count w = ws.count w := fun w h => by
    rw [e]
    exact List.count_filter (p := fun w => decide (w ≠ 0)) (a := w) (decide_eq_true h)
  constructor
  · intro h v hv
    obtain ⟨a, b⟩ := (mem v.1).mp (List.mem_map.mpr ⟨v, hv, rfl⟩)
    rw [cnt v.1 b]
    exact h v.1 a b
  · intro h w hw h0
    obtain ⟨v, v1, v2⟩ := List.mem_map.mp ((mem w).mpr ⟨hw, h0⟩)
    have := h v v1
    rw [v2, cnt w h0] at this
    exact this

end
