/-! ===== lpure ===== -/
section
/-! the law's invariant: the pure part -/
def TW : List (Txt × Bool) → Nat
  | [] => 0
  | t :: r => (t.1.2.2.2.1.length + t.1.2.2.2.2.length) + TW r
theorem TW_app : ∀ a b : List (Txt × Bool), TW (a ++ b) = TW a + TW b
  | [], b => (Nat.zero_add _).symm
  | t :: a, b => by
    show (t.1.2.2.2.1.length + t.1.2.2.2.2.length) + TW (a ++ b) = (t.1.2.2.2.1.length + t.1.2.2.2.2.length) + TW a + TW b
    rw [TW_app a b]; omega
theorem TW_filter (p : Txt × Bool → Bool) : ∀ l : List (Txt × Bool), TW (l.filter p) ≤ TW l
  | [] => Nat.le_refl _
  | t :: l => by
    have ih := TW_filter p l
    have e : TW (t :: l) = (t.1.2.2.2.1.length + t.1.2.2.2.2.length) + TW l := rfl
    rw [List.filter_cons]
    split
    · show (t.1.2.2.2.1.length + t.1.2.2.2.2.length) + TW (l.filter p) ≤ _
      omega
    · omega
theorem TW_erase : ∀ (l : List (Txt × Bool)) (i : Nat), TW (l.eraseIdx i) ≤ TW l
  | [], i => by cases i <;> exact Nat.le_refl _
  | t :: l, 0 => by
    show TW l ≤ (t.1.2.2.2.1.length + t.1.2.2.2.2.length) + TW l
    omega
  | t :: l, i + 1 => by
    have := TW_erase l i
    show (t.1.2.2.2.1.length + t.1.2.2.2.2.length) + TW (l.eraseIdx i) ≤ (t.1.2.2.2.1.length + t.1.2.2.2.2.length) + TW l
    omega
theorem TW_mark : ∀ (l : List (Txt × Bool)) (i : Nat), TW (l.modify i (fun t => (t.1, true))) = TW l
  | [], i => by cases i <;> rfl
  | t :: l, 0 => rfl
  | t :: l, i + 1 => by
    have := TW_mark l i
    show (t.1.2.2.2.1.length + t.1.2.2.2.2.length) + TW (l.modify i (fun t => (t.1, true))) = _
    rw [this]; rfl
/-- the words of all texts -/
def twW (s : CS) : Nat := TW (fbF (fC s) (bC s))
theorem TW_fb (f : List (Txt × Bool)) (b : List Txt) : TW (fbF f b) = TW f + TW (b.map (fun t => (t, false))) := TW_app _ _
theorem TW_get : ∀ (l : List (Txt × Bool)) (k : Nat), TW (l.take (k + 1)) = TW (l.take k) + (((l[k]?).getD ((0, 0, 0, [], []), false)).1.2.2.2.1.length + ((l[k]?).getD ((0, 0, 0, [], []), false)).1.2.2.2.2.length)
  | [], k => by simp [TW]
  | t :: l, 0 => by
    show (t.1.2.2.2.1.length + t.1.2.2.2.2.length) + TW (l.take 0) = TW ([] : List (Txt × Bool)) + _
    rw [List.take_zero]
    show (t.1.2.2.2.1.length + t.1.2.2.2.2.length) + 0 = 0 + (t.1.2.2.2.1.length + t.1.2.2.2.2.length)
    omega
  | t :: l, k + 1 => by
    have := TW_get l k
    show (t.1.2.2.2.1.length + t.1.2.2.2.2.length) + TW (l.take (k + 1)) = (t.1.2.2.2.1.length + t.1.2.2.2.2.length) + TW (l.take k) + _
    rw [this, List.getElem?_cons_succ]; omega
theorem twS_TW (f : List (Txt × Bool)) : ∀ k : Nat, twS f k = TW (f.take k)
  | 0 => by rw [List.take_zero]; rfl
  | k + 1 => by
    rw [TW_get, ← twS_TW f k]; rfl
theorem twS_le (s : CS) : twS (fC s) (fC s).length ≤ twW s := by
  rw [twS_TW, List.take_length]
  unfold twW
  rw [TW_fb]; omega
theorem dropB_TW (b : List Txt) (k : Int) : TW ((dropB b k).map (fun t => (t, false))) ≤ TW (b.map (fun t => (t, false))) := by
  unfold dropB
  split
  · exact Nat.le_refl _
  · have key : ∀ (l : List Txt) (i : Nat), (l.eraseIdx i).map (fun t => (t, false)) = (l.map (fun t => (t, false))).eraseIdx i := by
      intro l
      induction l with
      | nil => intro i; cases i <;> rfl
      | cons a l ih =>
        intro i
        cases i with
        | zero => rfl
        | succ i =>
          show (a, false) :: (l.eraseIdx i).map (fun t => (t, false)) = (a, false) :: (l.map (fun t => (t, false))).eraseIdx i
          rw [ih]
    have this := key b (kidx b k).toNat
    rw [this]
    exact TW_erase _ _
theorem dropF_TW (f : List (Txt × Bool)) (k : Int) : TW (dropF f k) = TW f := by
  unfold dropF
  split
  · rfl
  · exact TW_mark _ _
theorem mgF_TW (f : List (Txt × Bool)) (s n : Nat) : TW (mgF f s n) ≤ TW f := by
  have e : f = f.take s ++ ((f.drop s).take n ++ (f.drop s).drop n) := by rw [List.take_append_drop, List.take_append_drop]
  have a := congrArg TW e
  rw [TW_app, TW_app, List.drop_drop] at a
  have b := TW_filter (fun t => !t.2) (segF f s n)
  unfold segF at b
  unfold mgF segF
  rw [TW_app, TW_app]
  omega
theorem mwF_P {P : List (Txt × Bool) → Prop} (hP : ∀ z c f, Swf z f → c + 3 ≤ z.length → P f → P (mgT z c 3 f)) : ∀ (n : Nat) (z : List Int) (f : List (Txt × Bool)) (m : Int), Swf z f → f.length ≤ 60 → P f → P (mwF n z f m).2.1 ∧ (mwF n z f m).2.2 ≤ m + n
  | 0, z, f, m, W, l, h => ⟨h, by show m ≤ m + ((0 : Nat) : Int); omega⟩
  | n + 1, z, f, m, W, l, h => by
    show P (if f3 z = -1 then (z, f, m) else mwF n (mgZ z (f3 z).toNat 3 f) (mgT z (f3 z).toNat 3 f) (m + 1)).2.1 ∧ (if f3 z = -1 then (z, f, m) else mwF n (mgZ z (f3 z).toNat 3 f) (mgT z (f3 z).toNat 3 f) (m + 1)).2.2 ≤ m + ((n + 1 : Nat) : Int)
    by_cases y : f3 z = -1
    · rw [if_pos y]
      exact ⟨h, by show m ≤ _; omega⟩
    · rw [if_neg y]
      obtain ⟨l1, l2⟩ := f3_lt z y
      have hz : ∀ x ∈ z, 0 ≤ x ∧ x ≤ 60 := fun x hx => by
        have := W.2 x hx
        have h2 := W.1
        have : x ≤ z.sum := by
          obtain ⟨i, hi⟩ := List.mem_iff_getElem?.mp hx
          have il := (List.getElem?_eq_some_iff.mp hi).1
          have s1 := sum_split z i
          have a : 0 ≤ (z.take i).sum := sum_nn (fun w hw => by have := W.2 w (List.mem_of_mem_take hw); omega)
          have d : (z.drop i).sum = x + (z.drop (i + 1)).sum := by
            rw [List.drop_eq_getElem_cons il, List.sum_cons]
            rw [List.getElem?_eq_getElem il] at hi
            rw [Option.some.inj hi]
          have b : 0 ≤ (z.drop (i + 1)).sum := sum_nn (fun w hw => by have := W.2 w (List.mem_of_mem_drop hw); omega)
          omega
        omega
      have W2 := W.merge (first := (f3 z).toNat) (count := 3) hz (by omega)
      have ml := mgF_len f (stA z (f3 z).toNat).toNat (stA z (((f3 z).toNat : Int) + 3) - stA z (f3 z).toNat).toNat
      have ih := mwF_P hP n (mgZ z (f3 z).toNat 3 f) (mgT z (f3 z).toNat 3 f) (m + 1) W2 (Nat.le_trans ml l) (hP z (f3 z).toNat f W (by omega) h)
      exact ⟨ih.1, by have := ih.2; omega⟩
theorem adT_w (bs : List Int) (k sh rk : Int) : 2 * ((adT bs k sh rk).2.2.2.1.length + (adT bs k sh rk).2.2.2.2.length : Int) ≤ bs.length + 1 := by
  obtain ⟨⟨f0, f1⟩, f2⟩ := fpl_ok bs 124
  show 2 * (((rowS bs 0 (fpl bs 124)).length : Int) + (rowS bs (fpl bs 124) bs.length).length) ≤ bs.length + 1
  have a := rowF_len bs (fpl bs 124) ((fpl bs 124) - 0).toNat 0 f0
  have a : 2 * ((rowS bs 0 (fpl bs 124)).length : Int) ≤ fpl bs 124 - 0 + 1 := a
  have b := rowF_len bs bs.length ((bs.length : Int) - fpl bs 124).toNat (fpl bs 124) f1
  have b : 2 * ((rowS bs (fpl bs 124) bs.length).length : Int) ≤ bs.length - fpl bs 124 + 1 := b
  rcases f2 with z | ⟨z1, z2⟩
  · omega
  · have e : rowS bs (fpl bs 124) bs.length = rowF bs bs.length ((bs.length : Int) - fpl bs 124).toNat (fpl bs 124 + 1) := by
      unfold rowS
      rw [show ((bs.length : Int) - fpl bs 124).toNat = ((bs.length : Int) - fpl bs 124).toNat - 1 + 1 by omega, rowF_succ, rowF_succ, rs_step bs z1 (by rw [z2]; decide)]
    have c := rowF_len bs bs.length ((bs.length : Int) - fpl bs 124).toNat (fpl bs 124 + 1) (by omega)
    rw [← e] at c
    omega
/-- unmarked keys are all different; the words are bounded by the feeds -/
def PIN (s : CS) (F : Nat) : Prop := UQ s ∧ ∃ k : Nat, (tC s).length ≤ 20 * k ∧ twW s + 10 * k ≤ 10 * F
theorem PIN.tw {s : CS} {F : Nat} (P : PIN s F) : twS (fC s) (fC s).length ≤ ((10 * F : Nat) : Int) := by
  obtain ⟨-, k, -, h⟩ := P
  have := twS_le s
  omega
theorem PIN.up {s : CS} {F : Nat} (P : PIN s F) : PIN s (F + 1) := by
  obtain ⟨u, k, a, b⟩ := P
  exact ⟨u, k, a, by omega⟩
/-- the same texts, a tape that isn't longer -/
theorem PIN.tape {s s' : CS} {F : Nat} (P : PIN s F) (ef : fC s' = fC s) (eb : bC s' = bC s) (et : (tC s').length ≤ (tC s).length) : PIN s' F := by
  obtain ⟨u, k, a, b⟩ := P
  refine ⟨?_, k, by omega, ?_⟩
  · unfold UQ; rw [ef, eb]; exact u
  · unfold twW; rw [ef, eb]; exact b
theorem PIN.feed {s : CS} {F : Nat} {a b c i j : Int} (P : PIN s F) : PIN (cFeed s a b c i j).2 (F + 1) := by
  unfold cFeed
  split
  · obtain ⟨u, k, x, y⟩ := P
    refine ⟨u, k + 1, ?_, ?_⟩
    · show (tC s ++ by4 a ++ by4 b ++ by4 c ++ by4 i ++ by4 j).length ≤ _
      rw [List.length_append, List.length_append, List.length_append, List.length_append, List.length_append]
      show (tC s).length + 4 + 4 + 4 + 4 + 4 ≤ _
      omega
    · show twW s + 10 * (k + 1) ≤ 10 * (F + 1)
      omega
  · exact P.up
theorem PIN.trim {s : CS} {F : Nat} {x : Int} (P : PIN s F) : PIN (cTrim s x).2 F := by
  unfold cTrim
  split
  · exact P.tape rfl rfl (by show ((tC s).take x.toNat).length ≤ _; rw [List.length_take]; omega)
  · exact P
theorem PIN.takeWord {s : CS} {F : Nat} (P : PIN s F) : PIN (cTakeWord s).2 F := P.tape rfl rfl (Nat.zero_le _)
theorem PIN.nearest {s : CS} {F : Nat} (P : PIN s F) : PIN (cNearest s).2 F := by
  unfold cNearest
  split
  · exact P
  · exact P.tape rfl rfl (Nat.le_refl _)
theorem PIN.ask {s : CS} {F : Nat} (P : PIN s F) : PIN (cAsk s).2 F := by
  unfold cAsk
  split
  · exact P.tape rfl rfl (Nat.zero_le _)
  · exact P.tape rfl rfl (Nat.zero_le _)
theorem PIN.takeOut {s : CS} {F : Nat} {k : Int} (P : PIN s F) (W : CWF s) : PIN (cTakeOut s k).2 F := by
  unfold cTakeOut
  split
  · split
    · exact P
    · obtain ⟨u, j, x, y⟩ := P
      refine ⟨(uK_drop u W.1.1.1).1, j, x, ?_⟩
      show TW (fbF (dropF (fC s) k) (dropB (bC s) k)) + 10 * j ≤ 10 * F
      have a := dropF_TW (fC s) k
      have b := dropB_TW (bC s) k
      unfold twW at y
      rw [TW_fb] at y ⊢
      omega
  · exact P
theorem PIN.add {s : CS} {F : Nat} {k sh rk : Int} (P : PIN s F) (W : CWF s) : PIN (cAdd s k sh rk).2 F := by
  unfold cAdd
  split
  · split
    · exact P
    · obtain ⟨u, j, x, y⟩ := P
      obtain ⟨u1, u2⟩ := uK_drop (k := k) u W.1.1.1
      have fe : fbF (dropF (fC s) k) (dropB (bC s) k ++ [adT (tC s) k sh rk]) = fbF (dropF (fC s) k) (dropB (bC s) k) ++ [(adT (tC s) k sh rk, false)] := by
        unfold fbF
        rw [List.map_append, ← List.append_assoc]; rfl
      refine ⟨?_, 0, Nat.zero_le _, ?_⟩
      · show (uK (fbF (dropF (fC s) k) (dropB (bC s) k ++ [adT (tC s) k sh rk]))).Nodup
        rw [fe, uK_app]
        have e1 : uK [(adT (tC s) k sh rk, false)] = [k] := rfl
        rw [e1]
        refine List.nodup_append.mpr ⟨u1, List.nodup_cons.mpr ⟨List.not_mem_nil, List.nodup_nil⟩, fun a ha b hb => ?_⟩
        rw [List.mem_singleton] at hb
        rw [hb]
        intro e
        rw [e] at ha
        exact u2 ha
      · show TW (fbF (dropF (fC s) k) (dropB (bC s) k ++ [adT (tC s) k sh rk])) + 10 * 0 ≤ 10 * F
        rw [fe, TW_app]
        have a := dropF_TW (fC s) k
        have b := dropB_TW (bC s) k
        have c := adT_w (tC s) k sh rk
        have d : TW [(adT (tC s) k sh rk, false)] = ((adT (tC s) k sh rk).2.2.2.1.length + (adT (tC s) k sh rk).2.2.2.2.length) + 0 := rfl
        unfold twW at y
        rw [TW_fb] at y ⊢
        omega
  · exact P
theorem fbZ_wf {s : CS} (W : CWF s) : Swf (fbZ (zC s) (bC s)) (fbF (fC s) (bC s)) ∧ (fbF (fC s) (bC s)).length ≤ 60 := by
  obtain ⟨⟨w1, w2⟩, l⟩ := W.1
  refine ⟨⟨?_, fun x hx => ?_⟩, by rw [fb_len]; omega⟩
  · rw [fb_len]
    unfold fbZ
    split
    · rw [w1]; omega
    · rw [List.sum_append, List.sum_cons, List.sum_nil, w1]; omega
  · unfold fbZ at hx
    split at hx
    · exact w2 x hx
    · rcases List.mem_append.mp hx with y | y
      · exact w2 x y
      · rw [List.mem_singleton] at y
        omega
theorem PIN.commit {s : CS} {F : Nat} (P : PIN s F) (W : CWF s) : PIN (cCommit s).2 F ∧ mC (cCommit s).2 ≤ mC s + 60 := by
  obtain ⟨u, j, x, y⟩ := P
  obtain ⟨W2, l⟩ := fbZ_wf W
  have key := mwF_P (P := fun f => uK f = uK (fbF (fC s) (bC s)) ∧ TW f ≤ TW (fbF (fC s) (bC s))) (fun z c f Wf hc h => ⟨(mgT_uK Wf).trans h.1, Nat.le_trans (mgF_TW f _ _) h.2⟩) 60 _ _ (mC s) W2 l ⟨rfl, Nat.le_refl _⟩
  obtain ⟨⟨k1, k2⟩, k3⟩ := key
  have e : fbF (cmR s).2.1 [] = (cmR s).2.1 := List.append_nil _
  refine ⟨⟨?_, j, x, ?_⟩, k3⟩
  · show (uK (fbF (cmR s).2.1 [])).Nodup
    rw [e]
    have k1 : uK (cmR s).2.1 = _ := k1
    rw [k1]; exact u
  · show TW (fbF (cmR s).2.1 []) + 10 * j ≤ 10 * F
    rw [e]
    have k2 : TW (cmR s).2.1 ≤ _ := k2
    unfold twW at y
    omega
theorem PIN.mergeAll {s : CS} {F : Nat} (P : PIN s F) (W : CWF s) : PIN (cMergeAll s).2 F ∧ mC (cMergeAll s).2 ≤ mC s + 60 := by
  obtain ⟨u, j, x, y⟩ := P
  have kk : uK (maT (zC s) (fC s)) = uK (fC s) ∧ TW (maT (zC s) (fC s)) ≤ TW (fC s) := by
    unfold maT
    split
    · exact ⟨rfl, Nat.le_refl _⟩
    · exact ⟨mgT_uK W.1.1, mgF_TW _ _ _⟩
  refine ⟨⟨?_, j, x, ?_⟩, ?_⟩
  · show (uK (fbF (maT (zC s) (fC s)) (bC s))).Nodup
    have e : uK (fbF (maT (zC s) (fC s)) (bC s)) = uK (fbF (fC s) (bC s)) := by
      unfold fbF
      rw [uK_app, uK_app, kk.1]
    rw [e]; exact u
  · show TW (fbF (maT (zC s) (fC s)) (bC s)) + 10 * j ≤ 10 * F
    unfold twW at y
    rw [TW_fb] at y ⊢
    omega
  · show maM (zC s) (fC s) (mC s) ≤ mC s + 60
    unfold maM
    split <;> omega
theorem fn_bd (F N : Nat) (h : F + N ≤ 512) : F * N ≤ 65536 := by
  have key : ∀ a : Nat, a ≤ 256 → (256 + a) * (256 - a) ≤ 65536 := fun a ha => by
    have := Nat.mul_self_sub_mul_self_eq 256 a
    omega
  by_cases c : F ≤ 256
  · have h1 : F * N ≤ F * (512 - F) := Nat.mul_le_mul_left _ (by omega)
    have h2 := key (256 - F) (by omega)
    rw [show 256 + (256 - F) = 512 - F by omega, show 256 - (256 - F) = F by omega, Nat.mul_comm] at h2
    omega
  · have h1 : F * N ≤ F * (512 - F) := Nat.mul_le_mul_left _ (by omega)
    have h2 := key (F - 256) (by omega)
    rw [show 256 + (F - 256) = F by omega, show 256 - (F - 256) = 512 - F by omega] at h2
    omega
theorem fn_bd2 (F N : Nat) (h : F + N ≤ 512) (h4 : 410 ≤ F) : F * N ≤ 41820 := by
  obtain ⟨a, rfl⟩ : ∃ a, F = 410 + a := ⟨F - 410, by omega⟩
  have h1 : (410 + a) * N ≤ (410 + a) * (102 - a) := Nat.mul_le_mul_left _ (by omega)
  have h2 : (410 + a) * (102 - a) ≤ 41820 := by
    obtain ⟨b, hb⟩ : ∃ b, 102 = a + b := ⟨102 - a, by omega⟩
    rw [show 102 - a = b by omega, Nat.add_mul]
    have h3 : a * b ≤ a * 102 := Nat.mul_le_mul_left _ (by omega)
    omega
  omega

end
