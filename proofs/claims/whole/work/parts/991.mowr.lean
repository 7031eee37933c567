/-! ===== mowr ===== -/
section
/-! what the model's writing calls come to -/
theorem uK_cons (a : Txt × Bool) (l : List (Txt × Bool)) : uK (a :: l) = if a.2 = true then uK l else a.1.1 :: uK l := by
  unfold uK
  cases z : a.2
  · rw [List.filter_cons_of_pos (by rw [z]; rfl), if_neg (by decide)]; rfl
  · rw [List.filter_cons_of_neg (by rw [z]; decide), if_pos rfl]
theorem uK_mark : ∀ (T : List (Txt × Bool)) (i : Nat) (t : Txt × Bool), T[i]? = some t → t.2 = false → (uK T).Perm (t.1.1 :: uK (T.modify i (fun t => (t.1, true))))
  | [], i, t, h, _ => by rw [List.getElem?_nil] at h; cases h
  | a :: l, 0, t, h, ht => by
    have e : a = t := Option.some.inj h
    subst e
    rw [List.modify_zero_cons, uK_cons, uK_cons, if_neg (by rw [ht]; decide), if_pos rfl]
  | a :: l, i + 1, t, h, ht => by
    have ih := uK_mark l i t h ht
    rw [List.modify_succ_cons, uK_cons, uK_cons]
    by_cases z : a.2 = true
    · rw [if_pos z, if_pos z]; exact ih
    · rw [if_neg z, if_neg z]; exact (ih.cons _).trans (List.Perm.swap _ _ _)
theorem uK_erase : ∀ (T : List (Txt × Bool)) (i : Nat) (t : Txt × Bool), T[i]? = some t → t.2 = false → (uK T).Perm (t.1.1 :: uK (T.eraseIdx i))
  | [], i, t, h, _ => by rw [List.getElem?_nil] at h; cases h
  | a :: l, 0, t, h, ht => by
    have e : a = t := Option.some.inj h
    subst e
    rw [uK_cons, if_neg (by rw [ht]; decide)]
    exact List.Perm.refl _
  | a :: l, i + 1, t, h, ht => by
    have ih := uK_erase l i t h ht
    show (uK (a :: l)).Perm (t.1.1 :: uK (a :: l.eraseIdx i))
    rw [uK_cons, uK_cons]
    by_cases z : a.2 = true
    · rw [if_pos z, if_pos z]; exact ih
    · rw [if_neg z, if_neg z]; exact (ih.cons _).trans (List.Perm.swap _ _ _)
theorem app_modify {α : Type} (g : α → α) : ∀ (l r : List α) (i : Nat), i < l.length → (l ++ r).modify i g = l.modify i g ++ r
  | [], _, _, h => absurd h (Nat.not_lt_zero _)
  | a :: l, r, 0, _ => rfl
  | a :: l, r, i + 1, h => by
    show ((a :: (l ++ r)).modify (i + 1) g) = _
    rw [List.modify_succ_cons, List.modify_succ_cons, app_modify g l r i (Nat.lt_of_succ_lt_succ h)]; rfl
theorem map_erase {α β : Type} (g : α → β) : ∀ (l : List α) (i : Nat), (l.map g).eraseIdx i = (l.eraseIdx i).map g
  | [], _ => rfl
  | a :: l, 0 => rfl
  | a :: l, i + 1 => by
    show g a :: (l.map g).eraseIdx i = g a :: (l.eraseIdx i).map g
    rw [map_erase g l i]
/-- the text with a key goes -/
theorem fb_out {s : CS} {k : Int} (U : UQ s) (hz : (zC s).sum = (fC s).length) (hk : sidx (fbF (fC s) (bC s)) k ≠ -1) : (if (zC s).sum ≤ sidx (fbF (fC s) (bC s)) k then (fbF (fC s) (bC s)).eraseIdx (sidx (fbF (fC s) (bC s)) k).toNat else (fbF (fC s) (bC s)).modify (sidx (fbF (fC s) (bC s)) k).toNat (fun t => (t.1, true))) = fbF (dropF (fC s) k) (dropB (bC s) k) ∧ (if (zC s).sum ≤ sidx (fbF (fC s) (bC s)) k then (1 : Int) else 0) = (if kidx (bC s) k = -1 then 0 else 1) := by
  have rf := sidx_rng (fC s) k
  have rb := kidx_rng (bC s) k
  rw [sidx_fb] at hk ⊢
  by_cases w : sidx (fC s) k = -1
  · rw [if_pos w] at hk ⊢
    by_cases u : kidx (bC s) k = -1
    · rw [if_pos u] at hk; exact absurd rfl hk
    · rw [if_neg u, if_pos (by omega), if_pos (by omega), if_neg u]
      refine ⟨?_, rfl⟩
      unfold dropF dropB
      rw [if_pos w, if_neg u]
      unfold fbF
      rw [List.eraseIdx_append_of_length_le (by omega), map_erase]
      congr 3
      omega
  · have u : kidx (bC s) k = -1 := (U.one k).resolve_left w
    rw [if_neg w, if_neg (by omega), if_neg (by omega), if_pos u]
    refine ⟨?_, rfl⟩
    unfold dropF dropB
    rw [if_neg w, if_pos u]
    unfold fbF markI
    rw [app_modify _ _ _ _ (by omega)]
theorem sidx_at {T : List (Txt × Bool)} {k : Int} (h : sidx T k ≠ -1) : ∃ t, T[(sidx T k).toNat]? = some t ∧ t.2 = false ∧ t.1.1 = k := by
  obtain ⟨a, a1, a2⟩ := idxI_hit (fun t : Txt × Bool => decide (t.1.1 = k) && !t.2) T h
  rw [Bool.and_eq_true] at a2
  exact ⟨a, a1, by have := a2.2; simpa using this, of_decide_eq_true a2.1⟩
/-- what is left has no unmarked text with this key -/
theorem uK_drop {s : CS} {k : Int} (U : UQ s) (hz : (zC s).sum = (fC s).length) : (uK (fbF (dropF (fC s) k) (dropB (bC s) k))).Nodup ∧ k ∉ uK (fbF (dropF (fC s) k) (dropB (bC s) k)) := by
  by_cases w : sidx (fbF (fC s) (bC s)) k = -1
  · have rf := sidx_rng (fC s) k
    have rb := kidx_rng (bC s) k
    have w1 : sidx (fC s) k = -1 := by
      rw [sidx_fb] at w
      by_cases z : sidx (fC s) k = -1
      · exact z
      · rw [if_neg z] at w; exact absurd w z
    have w2 : kidx (bC s) k = -1 := by
      rw [sidx_fb, if_pos w1] at w
      by_cases z : kidx (bC s) k = -1
      · exact z
      · rw [if_neg z] at w; omega
    have e : fbF (dropF (fC s) k) (dropB (bC s) k) = fbF (fC s) (bC s) := by
      unfold dropF dropB
      rw [if_pos w1, if_pos w2]
    rw [e]
    refine ⟨U, fun y => ?_⟩
    obtain ⟨t, t1, t2⟩ := List.mem_map.mp y
    obtain ⟨t3, t4⟩ := List.mem_filter.mp t1
    obtain ⟨j, hj⟩ := List.mem_iff_getElem?.mp t3
    have hit : ∃ a ∈ fbF (fC s) (bC s), (decide (a.1.1 = k) && !a.2) = true := ⟨t, t3, by rw [t2]; simpa using t4⟩
    obtain ⟨a, a1, a2⟩ := hit
    have key : ∀ l : List (Txt × Bool), a ∈ l → idxI (fun t : Txt × Bool => decide (t.1.1 = k) && !t.2) l ≠ -1 := by
      intro l
      induction l with
      | nil => intro h; cases h
      | cons b l ih =>
        intro h
        have e2 : idxI (fun t : Txt × Bool => decide (t.1.1 = k) && !t.2) (b :: l) = if (decide (b.1.1 = k) && !b.2) = true then 0 else if idxI (fun t : Txt × Bool => decide (t.1.1 = k) && !t.2) l = -1 then -1 else idxI (fun t : Txt × Bool => decide (t.1.1 = k) && !t.2) l + 1 := rfl
        rw [e2]
        have rl := idxI_rng (fun t : Txt × Bool => decide (t.1.1 = k) && !t.2) l
        by_cases z : (decide (b.1.1 = k) && !b.2) = true
        · rw [if_pos z]; decide
        · rw [if_neg z]
          rcases List.mem_cons.mp h with y | y
          · exact absurd (y ▸ a2) z
          · have := ih y
            rw [if_neg this]; omega
    exact key _ a1 w
  · obtain ⟨t, t1, t2, t3⟩ := sidx_at w
    rw [← (fb_out U hz w).1]
    unfold UQ at U
    split
    · have p := uK_erase _ _ t t1 t2
      have n := (p.nodup_iff).mp U
      rw [t3] at n
      exact ⟨(List.nodup_cons.mp n).2, (List.nodup_cons.mp n).1⟩
    · have p := uK_mark _ _ t t1 t2
      have n := (p.nodup_iff).mp U
      rw [t3] at n
      exact ⟨(List.nodup_cons.mp n).2, (List.nodup_cons.mp n).1⟩
/-- the model's tape, store and word -/
def MTS (h : XH) (s : CS) : Prop := MTR h (tC s) ∧ MSR h (fbF (fC s) (bC s)) (zC s) (mC s) ∧ xpl h 53 14 = wC s
/-- its cells for these, with what it puts in order and reckons changes in -/
def MWW : Int → Prop := fun c => 53 ≤ c ∧ c ≤ 65
/-- its fields for other things stay -/
def MKP (h h' : XH) : Prop := ∀ k, k ≠ 0 → k ≠ 2 → k ≠ 4 → k ≠ 5 → k ≠ 6 → k ≠ 14 → k ≠ 26 → xpl h' 53 k = xpl h 53 k
/-- a call of the model's that asks nothing: number and answer, and the state behind it -/
def MAT (Q : XV → XH → Prop) (mk : Int → XV) (h : XH) (f : List (Txt × Bool)) (l : List Int) (R : (Int × Int) × CS) (n9 s9 : Int) : Prop :=
  ∀ h', xFix h' → MTS h' R.2 → xsm MWW h h' → MKP h h' → (xpl h' 53 26 = 0 ∨ (xpl h' 53 26 = xpl h 53 26 ∧ fC R.2 = f)) → xpl h' 53 0 = thr l R.1.1 → xnx h' ≤ xnx h + n9 → xsl h' ≤ xsl h + s9 → Q (mk R.1.2) h'
theorem MTR.keep {h h' : XH} {bs : List Int} (R : MTR h bs) (e2 : xpl h' 53 2 = xpl h 53 2) (e54 : ∀ k, xpl h' 54 k = xpl h 54 k) : MTR h' bs := ⟨e2.trans R.1, R.2.1, fun i hi => by rw [e54]; exact R.2.2.1 i hi, R.2.2.2⟩
theorem MTS.th {h : XH} {s : CS} {v : Int} (R : MTS h s) : MTS (xst h 53 0 v) s := ⟨R.1.keep (xpl_ok (by decide)) (fun k => xpl_oa (by decide)), R.2.1.th, (xpl_ok (by decide)).trans R.2.2⟩
theorem MAT.rd {Q : XV → XH → Prop} {mk : Int → XV} {h : XH} {s : CS} {l : List Int} {r : Int × Int} {n9 s9 : Int} (q : MAT Q mk h (fC s) l (r, s) n9 s9) (R : MTS h s) (hn : 0 ≤ n9) (hs : 0 ≤ s9) : MRd Q mk h l r := fun F9 =>
  q _ F9 R.th ((xsm.refl h).st (by decide) (Or.inl ⟨by decide, by decide⟩)) (fun k h0 _ _ _ _ _ _ => xpl_ok h0) (Or.inr ⟨xpl_ok (by decide), rfl⟩) (xpl_hit _ _ _ _) (by show xnx h ≤ _; omega) (by show xsl h ≤ _; omega)
theorem s_M_takeOut {G : XG} {d : Nat} {h : XH} {Q : XV → XH → Prop} {X : Nat → XH → Prop} {s : CS} {k n9 s9 : Int} (F : xFix h) (R : MTS h s) (W : Swf (zC s) (fC s)) (U : UQ s) (hn : 0 ≤ n9) (hs : 0 ≤ s9) (hq : MAT Q xI h (fC s) [1, 2] (cTakeOut s k) n9 s9) : xwp G m_M_takeOut (d + 4) 0 [xR 53, xI k, xZ] [] h Q X := by
  have rb := kidx_rng (bC s) k
  have rf := sidx_rng (fC s) k
  unfold cTakeOut at hq
  refine v_M_takeOut_0 F ?_
  refine ⟨fun q1 => ?_, fun q1 => ?_⟩
  · intro F9
    rw [if_neg (by omega)] at hq; exact hq.rd R hn hs F9
  · refine ⟨fun q2 => ?_, fun q2 => ?_⟩
    · intro F9
      rw [if_neg (by omega)] at hq; exact hq.rd R hn hs F9
    · intro F9
      rw [if_pos ⟨by omega, by omega⟩] at hq
      have R2 := R.th (v := 0)
      refine p_M_whereIs F9 R2.2.1 ?_
      by_cases w : sidx (fbF (fC s) (bC s)) k = -1
      · have w2 : kidx (bC s) k = -1 ∧ sidx (fC s) k = -1 := by
          rw [sidx_fb] at w
          by_cases z : sidx (fC s) k = -1
          · rw [if_pos z] at w
            by_cases y : kidx (bC s) k = -1
            · exact ⟨y, z⟩
            · rw [if_neg y] at w; omega
          · rw [if_neg z] at w; exact absurd w z
        rw [if_pos w2] at hq
        refine v_M_takeOut_18 F9 ?_
        refine ⟨fun q1 => ?_, fun q1 => ?_⟩
        · intro F9
          have e : xst (xst h 53 0 0) 53 0 2 = xst h 53 0 2 := xst_xst _ _ _ _ _
          rw [e] at F9 ⊢
          exact hq.rd R hn hs F9
        · exact absurd w q1
      · have w2 : ¬ (kidx (bC s) k = -1 ∧ sidx (fC s) k = -1) := fun y => w (by rw [sidx_fb, if_pos y.2, if_pos y.1])
        rw [if_neg w2] at hq
        have rT : -1 ≤ sidx (fbF (fC s) (bC s)) k ∧ sidx (fbF (fC s) (bC s)) k < (fbF (fC s) (bC s)).length := idxI_rng _ _
        obtain ⟨o1, o2⟩ := fb_out U W.1 w
        refine v_M_takeOut_18 F9 ?_
        refine ⟨fun q1 => ?_, fun q1 => ?_⟩
        · intro F9
          exact absurd q1 w
        · refine s_M_out F9 R2.2.1 (by omega) rT.2 (fun h2 F2 S2 z26 k2 M2 n2 l2 => ?_)
          rw [o1] at M2
          rw [o2]
          have hnx := F9.nx
          have S9 : xsm MWW h h2 := ((xsm.refl h).st (k := 0) (v := 0) (by decide) (Or.inl ⟨by decide, by decide⟩)).then S2 (fun c _ w => ⟨by omega, by omega⟩)
          refine v_M_takeOut_29 F2 ?_
          refine ⟨?_, ?_⟩
          · split <;> decide
          · exact hq h2 F2 ⟨R2.1.keep (k2 2 (by decide) (by decide)) (fun k => S2.pl (by omega) (by decide) k), M2, (k2 14 (by decide) (by decide)).trans R2.2.2⟩ S9 (fun k h0 h2 h4 h5 h6 h14 h26 => (k2 k h4 h26).trans (xpl_ok h0)) (Or.inl z26) ((k2 0 (by decide) (by decide)).trans (xpl_hit _ _ _ _)) (by rw [n2]; show xnx h ≤ _; omega) (by rw [l2]; show xsl h ≤ _; omega)

end
