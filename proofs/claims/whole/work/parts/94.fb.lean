/-! ===== fb ===== -/
section
/-! the model keeps the buffer behind the filed texts: what that says of places and merges -/
theorem idxI_app {α : Type} (p : α → Bool) (l r : List α) : idxI p (l ++ r) = if idxI p l = -1 then (if idxI p r = -1 then -1 else (l.length : Int) + idxI p r) else idxI p l := by
  have rr := idxI_rng p r
  induction l with
  | nil =>
    rw [List.nil_append, show idxI p [] = -1 from rfl, if_pos rfl]
    by_cases z : idxI p r = -1
    · rw [if_pos z, z]
    · rw [if_neg z]
      show _ = (0 : Int) + _
      omega
  | cons a l ih =>
    have e1 : idxI p (a :: l ++ r) = if p a = true then 0 else if idxI p (l ++ r) = -1 then -1 else idxI p (l ++ r) + 1 := rfl
    have e2 : idxI p (a :: l) = if p a = true then 0 else if idxI p l = -1 then -1 else idxI p l + 1 := rfl
    have ll := idxI_rng p l
    rw [e1, e2, ih, List.length_cons]
    by_cases y : p a = true
    · rw [if_pos y, if_pos y, if_neg (by decide)]
    · rw [if_neg y, if_neg y]
      by_cases z : idxI p l = -1
      · rw [if_pos z, if_pos z, if_pos rfl]
        by_cases w : idxI p r = -1
        · rw [if_pos w, if_pos rfl, if_pos w]
        · rw [if_neg w, if_neg (by omega), if_neg w]; omega
      · rw [if_neg z, if_neg z, if_neg (by omega)]
theorem idxI_map {α β : Type} (p : β → Bool) (f : α → β) (l : List α) : idxI p (l.map f) = idxI (fun a => p (f a)) l := by
  induction l with
  | nil => rfl
  | cons a l ih =>
    show (if p (f a) = true then 0 else if idxI p (l.map f) = -1 then -1 else idxI p (l.map f) + 1) = _
    rw [ih]; rfl
theorem sidx_fb (f : List (Txt × Bool)) (b : List Txt) (k : Int) : sidx (fbF f b) k = if sidx f k = -1 then (if kidx b k = -1 then -1 else (f.length : Int) + kidx b k) else sidx f k := by
  have e : idxI (fun t : Txt × Bool => decide (t.1.1 = k) && !t.2) (b.map (fun t => (t, false))) = kidx b k := by
    rw [idxI_map]
    unfold kidx
    congr 1
    funext t
    simp
  unfold fbF
  show idxI _ (f ++ _) = _
  rw [idxI_app, e]; rfl
theorem sgX_fb {f : List (Txt × Bool)} {z : List Int} (b : List Txt) (k : Int) (hz : z.sum = f.length) : sgX (fbF f b) z k = sidx f k := by
  have r1 : -1 ≤ sidx f k ∧ sidx f k < f.length := idxI_rng _ f
  have r2 : -1 ≤ kidx b k ∧ kidx b k < b.length := idxI_rng _ b
  unfold sgX
  rw [sidx_fb]
  by_cases y : sidx f k = -1
  · rw [if_pos y]
    by_cases w : kidx b k = -1
    · rw [if_pos w, if_neg (by omega), y]
    · rw [if_neg w, if_pos (by omega), y]
  · rw [if_neg y, if_neg (by omega)]
theorem fb_take (f : List (Txt × Bool)) (b : List Txt) : (fbF f b).take f.length = f := by
  unfold fbF
  rw [List.take_left']; rfl
theorem fb_len (f : List (Txt × Bool)) (b : List Txt) : (fbF f b).length = f.length + b.length := by
  unfold fbF
  rw [List.length_append, List.length_map]
theorem fb_lo {f : List (Txt × Bool)} (b : List Txt) {i : Nat} (hi : i < f.length) : (fbF f b)[i]? = f[i]? := by
  unfold fbF
  rw [List.getElem?_append_left hi]
theorem fb_hi {f : List (Txt × Bool)} (b : List Txt) {i : Nat} : (fbF f b)[f.length + i]? = (b[i]?).map (fun t => (t, false)) := by
  unfold fbF
  rw [List.getElem?_append_right (by omega), Nat.add_sub_cancel_left, List.getElem?_map]
theorem segF_fb {f : List (Txt × Bool)} (b : List Txt) {s n : Nat} (h : s + n ≤ f.length) : segF (fbF f b) s n = segF f s n := by
  unfold segF fbF
  rw [List.drop_append_of_le_length (by omega), List.take_append_of_le_length (by rw [List.length_drop]; omega)]
theorem goneF_fb {f : List (Txt × Bool)} (b : List Txt) {s n : Nat} (h : s + n ≤ f.length) : goneF (fbF f b) s n = goneF f s n := by
  unfold goneF
  rw [segF_fb b h]
theorem mgF_fb {f : List (Txt × Bool)} (b : List Txt) {s n : Nat} (h : s + n ≤ f.length) : mgF (fbF f b) s n = fbF (mgF f s n) b := by
  unfold mgF
  rw [segF_fb b h]
  unfold fbF
  rw [List.take_append_of_le_length (by omega), List.drop_append_of_le_length h]
  simp only [List.append_assoc]
theorem mg_rng {z : List Int} {f : List (Txt × Bool)} {a c : Nat} (W : Swf z f) : (stA z a).toNat + (stA z ((a : Int) + c) - stA z a).toNat ≤ f.length := by
  obtain ⟨w1, w2⟩ := W
  have ra := stA_rng2 w2 a
  have rb := stA_rng2 w2 ((a : Int) + c)
  omega
theorem mgT_fb {z : List Int} {f : List (Txt × Bool)} {a c : Nat} (b : List Txt) (W : Swf z f) : mgT z a c (fbF f b) = fbF (mgT z a c f) b := mgF_fb b (mg_rng W)
theorem mgG_fb {z : List Int} {f : List (Txt × Bool)} {a c : Nat} (b : List Txt) (W : Swf z f) : mgG z a c (fbF f b) = mgG z a c f := goneF_fb b (mg_rng W)
theorem mgZ_fb {z : List Int} {f : List (Txt × Bool)} {a c : Nat} (b : List Txt) (W : Swf z f) : mgZ z a c (fbF f b) = mgZ z a c f := by
  unfold mgZ
  rw [goneF_fb b (mg_rng W)]

end
