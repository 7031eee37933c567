/-! ===== store ===== -/
section
/-! abstractions of the heap as lists -/
def alL (h : XH) (a : Int) : List Int := (List.range (als h a).toNat).map (fun i => alg h a (i : Nat))
def rowL (h : XH) (r : Int) : List Int := (List.range (xln h r).toNat).map (fun i => xpl h r (i : Nat))
abbrev Txt : Type := Int × Int × Int × List Int × List Int
def textAt (h : XH) (p : Int) : Txt := (xpl h p 0, xpl h p 1, xpl h p 2, rowL h (xpl h p 3), rowL h (xpl h p 4))
def bufL (h : XH) : List Txt := (alL h 6).map (textAt h)
def filL (h : XH) : List (Txt × Bool) := (alL h 7).map (fun p => (textAt h p, decide (xpl h p 5 ≠ 0)))
def szL (h : XH) : List Int := (List.range (xpl h 5 4).toNat).map (fun i => xpl h 8 (i : Nat))
/-- the first place where p holds, -1 without one -/
def idxI {α : Type} (p : α → Bool) : List α → Int
  | [] => -1
  | a :: l => if p a = true then 0 else if idxI p l = -1 then -1 else idxI p l + 1
theorem idxI_rng {α : Type} (p : α → Bool) : ∀ l : List α, -1 ≤ idxI p l ∧ idxI p l < l.length
  | [] => by simp [idxI]
  | a :: l => by
    have := idxI_rng p l
    unfold idxI
    rw [List.length_cons]
    split
    · omega
    · split <;> omega
/-- the search from a place on -/
theorem idxI_drop {α : Type} (p : α → Bool) (l : List α) (i : Nat) (hi : i < l.length) (h : ∀ j : Nat, j < i → ∀ a, l[j]? = some a → ¬ p a = true) : (∀ a, l[i]? = some a → p a = true → idxI p l = i) := by
  induction l generalizing i with
  | nil => simp at hi
  | cons b l ih =>
    intro a ha hp
    unfold idxI
    cases i with
    | zero =>
      simp at ha
      subst ha
      rw [if_pos hp]; rfl
    | succ i =>
      have h0 := h 0 (by omega) b (by simp)
      rw [if_neg h0]
      have := ih i (by simpa using hi) (fun j hj a ha => h (j + 1) (by omega) a (by simpa using ha)) a (by simpa using ha) hp
      rw [this, if_neg (by omega)]
      omega
theorem idxI_none {α : Type} (p : α → Bool) (l : List α) (h : ∀ a ∈ l, ¬ p a = true) : idxI p l = -1 := by
  induction l with
  | nil => rfl
  | cons b l ih =>
    unfold idxI
    rw [if_neg (h b List.mem_cons_self), ih (fun a ha => h a (List.mem_cons_of_mem _ ha)), if_pos rfl]
def kidx (l : List Txt) (k : Int) : Int := idxI (fun t => decide (t.1 = k)) l
def sidx (l : List (Txt × Bool)) (k : Int) : Int := idxI (fun t => decide (t.1.1 = k) && !t.2) l
def szA (l : List Int) (s : Int) : Int := if s < 0 then 0 else (l[s.toNat]?).getD 0
theorem alL_len (h : XH) (a : Int) : (alL h a).length = (als h a).toNat := by unfold alL; simp
theorem alL_at {h : XH} {a : Int} {i : Nat} (hi : (i : Int) < als h a) : (alL h a)[i]? = some (alg h a i) := by
  unfold alL
  rw [List.getElem?_map, List.getElem?_range (by omega)]; rfl
theorem bufL_len (h : XH) : (bufL h).length = (als h 6).toNat := by unfold bufL; rw [List.length_map, alL_len]
theorem filL_len (h : XH) : (filL h).length = (als h 7).toNat := by unfold filL; rw [List.length_map, alL_len]
theorem bufL_at {h : XH} {i : Nat} (hi : (i : Int) < als h 6) : (bufL h)[i]? = some (textAt h (alg h 6 i)) := by unfold bufL; rw [List.getElem?_map, alL_at hi]; rfl
theorem filL_at {h : XH} {i : Nat} (hi : (i : Int) < als h 7) : (filL h)[i]? = some (textAt h (alg h 7 i), decide (xpl h (alg h 7 i) 5 ≠ 0)) := by unfold filL; rw [List.getElem?_map, alL_at hi]; rfl
theorem szL_len (h : XH) : (szL h).length = (xpl h 5 4).toNat := by unfold szL; simp
theorem szL_at {h : XH} {i : Nat} (hi : (i : Int) < xpl h 5 4) : (szL h)[i]? = some (xpl h 8 i) := by
  unfold szL
  rw [List.getElem?_map, List.getElem?_range (by omega)]; rfl
/-- the store can be read -/
def stok (h : XH) : Prop := alok h 6 ∧ alok h 7 ∧ (∀ i, 0 ≤ i → i < als h 6 → txok h (alg h 6 i)) ∧ (∀ i, 0 ≤ i → i < als h 7 → txok h (alg h 7 i)) ∧ (0 ≤ xpl h 5 4 ∧ xpl h 5 4 ≤ 60) ∧ (∀ i, 0 ≤ i → i < 60 → 0 ≤ xpl h 8 i ∧ xpl h 8 i ≤ 60) ∧ als h 6 ≤ 60 ∧ als h 7 ≤ 60
abbrev m_Store_textCount : XM := (⟨"BeaconIndex$Store", "textCount", "()I"⟩, prog_8_method_2_code, 1, (some .int), [])
theorem d_Store_textCount_0 : decode prog_8_method_2_code 0 = .ok (.aload_n 0, 1) := by decide +kernel
theorem d_Store_textCount_1 : decode prog_8_method_2_code 1 = .ok (.getfield 12, 3) := by decide +kernel
theorem w_148 : Cond.fieldLink "BeaconIndex$Store" 12 "BeaconIndex$Store" "buffer" "Ljava/util/ArrayList;" ∈ lw_tbl := List.mem_append_right _ (List.mem_of_getElem? (i := 148) (by decide +kernel))
theorem d_Store_textCount_4 : decode prog_8_method_2_code 4 = .ok (.invokevirtual 41, 3) := by decide +kernel
theorem k_ArrayList_size : xCal m_ArrayList_size 0 := ⟨List.mem_append_right _ (List.mem_of_getElem? (i := 467) (by decide +kernel)), w_6, Nat.le_of_ble_eq_true rfl, ⟨by decide +kernel, by decide +kernel⟩, by decide +kernel, by decide +kernel, rfl⟩
theorem w_464 : Cond.methodLink "BeaconIndex$Store" 41 ⟨"java/util/ArrayList", "size", "()I"⟩ ∈ lw_tbl := List.mem_append_right _ (List.mem_of_getElem? (i := 464) (by decide +kernel))
theorem w_465 : Cond.instanceMethod ⟨"java/util/ArrayList", "size", "()I"⟩ ∈ lw_tbl := List.mem_append_right _ (List.mem_of_getElem? (i := 465) (by decide +kernel))
theorem w_466 : Cond.selects "java/util/ArrayList" ⟨"java/util/ArrayList", "size", "()I"⟩ ⟨"java/util/ArrayList", "size", "()I"⟩ ∈ lw_tbl := List.mem_append_right _ (List.mem_of_getElem? (i := 466) (by decide +kernel))
theorem d_Store_textCount_7 : decode prog_8_method_2_code 7 = .ok (.aload_n 0, 1) := by decide +kernel
theorem d_Store_textCount_8 : decode prog_8_method_2_code 8 = .ok (.getfield 18, 3) := by decide +kernel
theorem w_150 : Cond.fieldLink "BeaconIndex$Store" 18 "BeaconIndex$Store" "filed" "Ljava/util/ArrayList;" ∈ lw_tbl := List.mem_append_right _ (List.mem_of_getElem? (i := 150) (by decide +kernel))
theorem d_Store_textCount_11 : decode prog_8_method_2_code 11 = .ok (.invokevirtual 41, 3) := by decide +kernel
theorem d_Store_textCount_14 : decode prog_8_method_2_code 14 = .ok (.iadd, 1) := by decide +kernel
theorem d_Store_textCount_15 : decode prog_8_method_2_code 15 = .ok (.ireturn, 1) := by decide +kernel
theorem v_Store_textCount_0 {G : XG} {d : Nat} {h : XH} {Q : XV → XH → Prop} {X : Nat → XH → Prop} (F : xFix h) (p0 : stok h) (hyp : (Q (xI ((als h 6) + (als h 7))) h)) : xwp G m_Store_textCount (d + 2) 0 [xR 5] [] h Q X := by
  have hnx9 : (93 : Int) ≤ xnx h := F.2.2
  refine xr_aload_n (pc := 0) (i := 0) (hI := d_Store_textCount_0) (hi := rfl) (hl := rfl) ?_
  refine xg_getf (pc := 1) (ci := 7) (k := 0) (N := 6) (v9 := 2) (v := 6) (T := xF7) (hI := d_Store_textCount_1) (hw := w_148) rfl xi7 (Or.inl rfl) (Nat.le_of_ble_eq_true rfl) (Nat.le_of_ble_eq_true rfl) rfl (ft_5 F) (fp_5_0 F) (fun f1_ => ?_)
  clear f1_
  refine xq_callV (pc := 4) (index := 41) (K := m_ArrayList_size) (As := []) (S := []) (L0 := [xR 6]) (hI := d_Store_textCount_4) (hK := k_ArrayList_size) (hlk := w_464) (hnoM := rfl) (hS8 := Nat.le_of_ble_eq_true rfl) (ci := 13) (N := 3) (C := "java/util/ArrayList") (T := xF13) (hc := rfl) (hci := Nat.le_of_ble_eq_true rfl) (htb := (ft_6 F)) (hinst := w_465) (hsel := w_466) (hlen := Nat.le_of_ble_eq_true rfl) (hst := rfl) (hL0 := rfl)  (p_AL_size F p0.1 ?_)
  show xwp G m_Store_textCount (d + 2) 7 [xR 5] [xI (als h 6)] _ _ _
  have f2_ : 0 ≤ (als h 6) ∧ (als h 6) ≤ 1000000 := ⟨p0.1.2.2.1, p0.1.2.2.2.2⟩
  refine xr_aload_n (pc := 7) (i := 0) (hI := d_Store_textCount_7) (hi := rfl) (hl := rfl) ?_
  refine xg_getf (pc := 8) (ci := 7) (k := 1) (N := 6) (v9 := 2) (v := 7) (T := xF7) (hI := d_Store_textCount_8) (hw := w_150) rfl xi7 (Or.inl rfl) (Nat.le_of_ble_eq_true rfl) (Nat.le_of_ble_eq_true rfl) rfl (ft_5 F) (fp_5_1 F) (fun f3_ => ?_)
  clear f3_
  refine xq_callV (pc := 11) (index := 41) (K := m_ArrayList_size) (As := []) (S := [xI (als h 6)]) (L0 := [xR 7]) (hI := d_Store_textCount_11) (hK := k_ArrayList_size) (hlk := w_464) (hnoM := rfl) (hS8 := Nat.le_of_ble_eq_true rfl) (ci := 13) (N := 3) (C := "java/util/ArrayList") (T := xF13) (hc := rfl) (hci := Nat.le_of_ble_eq_true rfl) (htb := (ft_7 F)) (hinst := w_465) (hsel := w_466) (hlen := Nat.le_of_ble_eq_true rfl) (hst := rfl) (hL0 := rfl)  (p_AL_size F p0.2.1 ?_)
  show xwp G m_Store_textCount (d + 2) 14 [xR 5] [xI (als h 7), xI (als h 6)] _ _ _
  have f4_ : 0 ≤ (als h 7) ∧ (als h 7) ≤ 1000000 := ⟨p0.2.1.2.2.1, p0.2.1.2.2.2.2⟩
  refine xr_iadd (pc := 14) (hI := d_Store_textCount_14) (hr := ⟨by clear hyp; omega, by clear hyp; omega⟩) ?_
  refine xr_ireturn (S := []) (pc := 15) (hI := d_Store_textCount_15) (hr := rfl) ?_
  exact hyp
abbrev m_Store_filedAt : XM := (⟨"BeaconIndex$Store", "filedAt", "(I)LBeaconIndex$Text;"⟩, prog_8_method_3_code, 2, (some (.object "BeaconIndex$Text")), [])
theorem d_Store_filedAt_0 : decode prog_8_method_3_code 0 = .ok (.iload_n 1, 1) := by decide +kernel
theorem d_Store_filedAt_1 : decode prog_8_method_3_code 1 = .ok (.ifCond .lt 28, 3) := by decide +kernel
theorem d_Store_filedAt_29 : decode prog_8_method_3_code 29 = .ok (.aload_n 0, 1) := by decide +kernel
theorem d_Store_filedAt_30 : decode prog_8_method_3_code 30 = .ok (.getfield 30, 3) := by decide +kernel
theorem w_153 : Cond.fieldLink "BeaconIndex$Store" 30 "BeaconIndex$Store" "nothing" "LBeaconIndex$Text;" ∈ lw_tbl := List.mem_append_right _ (List.mem_of_getElem? (i := 153) (by decide +kernel))
theorem d_Store_filedAt_33 : decode prog_8_method_3_code 33 = .ok (.areturn, 1) := by decide +kernel
theorem d_Store_filedAt_4 : decode prog_8_method_3_code 4 = .ok (.iload_n 1, 1) := by decide +kernel
theorem d_Store_filedAt_5 : decode prog_8_method_3_code 5 = .ok (.aload_n 0, 1) := by decide +kernel
theorem d_Store_filedAt_6 : decode prog_8_method_3_code 6 = .ok (.getfield 18, 3) := by decide +kernel
theorem d_Store_filedAt_9 : decode prog_8_method_3_code 9 = .ok (.invokevirtual 41, 3) := by decide +kernel
theorem d_Store_filedAt_12 : decode prog_8_method_3_code 12 = .ok (.if_icmp .ge 17, 3) := by decide +kernel
theorem d_Store_filedAt_15 : decode prog_8_method_3_code 15 = .ok (.aload_n 0, 1) := by decide +kernel
theorem d_Store_filedAt_16 : decode prog_8_method_3_code 16 = .ok (.getfield 18, 3) := by decide +kernel
theorem d_Store_filedAt_19 : decode prog_8_method_3_code 19 = .ok (.iload_n 1, 1) := by decide +kernel
theorem d_Store_filedAt_20 : decode prog_8_method_3_code 20 = .ok (.invokevirtual 45, 3) := by decide +kernel
theorem k_ArrayList_get : xCal m_ArrayList_get 1 := ⟨List.mem_append_right _ (List.mem_of_getElem? (i := 471) (by decide +kernel)), w_6, Nat.le_of_ble_eq_true rfl, ⟨by decide +kernel, by decide +kernel⟩, by decide +kernel, by decide +kernel, rfl⟩
theorem w_468 : Cond.methodLink "BeaconIndex$Store" 45 ⟨"java/util/ArrayList", "get", "(I)Ljava/lang/Object;"⟩ ∈ lw_tbl := List.mem_append_right _ (List.mem_of_getElem? (i := 468) (by decide +kernel))
theorem w_469 : Cond.instanceMethod ⟨"java/util/ArrayList", "get", "(I)Ljava/lang/Object;"⟩ ∈ lw_tbl := List.mem_append_right _ (List.mem_of_getElem? (i := 469) (by decide +kernel))
theorem w_470 : Cond.selects "java/util/ArrayList" ⟨"java/util/ArrayList", "get", "(I)Ljava/lang/Object;"⟩ ⟨"java/util/ArrayList", "get", "(I)Ljava/lang/Object;"⟩ ∈ lw_tbl := List.mem_append_right _ (List.mem_of_getElem? (i := 470) (by decide +kernel))
theorem d_Store_filedAt_23 : decode prog_8_method_3_code 23 = .ok (.checkcast 25, 3) := by decide +kernel
theorem w_113 : Cond.classLink "BeaconIndex$Store" 25 "BeaconIndex$Text" ∈ lw_tbl := List.mem_append_right _ (List.mem_of_getElem? (i := 113) (by decide +kernel))
theorem d_Store_filedAt_26 : decode prog_8_method_3_code 26 = .ok (.goto 7, 3) := by decide +kernel
theorem v_Store_filedAt_0 {G : XG} {d : Nat} {h : XH} {Q : XV → XH → Prop} {X : Nat → XH → Prop} {x1 : Int} (F : xFix h) (p0 : stok h) (hyp : ((x1 < 0 → (Q (xR 9) h)) ∧ (¬ x1 < 0 → (((als h 7) ≤ x1 → (Q (xR 9) h)) ∧ (¬ (als h 7) ≤ x1 → xtg h (alg h 7 x1) = 9 ∧ (Q (xR (alg h 7 x1)) h)))))) : xwp G m_Store_filedAt (d + 4) 0 [xR 5, xI x1] [] h Q X := by
  have hnx9 : (93 : Int) ≤ xnx h := F.2.2
  refine xr_okL (fun hl9 => ?_)
  have r_x1 : -2147483648 ≤ x1 ∧ x1 ≤ 2147483647 := hl9 (xI x1) (.tail _ (.head _)) (Nat.le_of_ble_eq_true rfl)
  refine xr_iload_n (pc := 0) (i := 1) (hI := d_Store_filedAt_0) (hi := rfl) (hl := rfl) ?_
  refine xr_if_lt (pc := 1) (tgt := 29) (hI := d_Store_filedAt_1) (ht := by decide) (fun q9 => ?_) (fun q9 => ?_)
  · replace hyp := hyp.1 q9
    have q1_ := q9
    clear q9
    refine xr_aload_n (pc := 29) (i := 0) (hI := d_Store_filedAt_29) (hi := rfl) (hl := rfl) ?_
    refine xg_getf (pc := 30) (ci := 7) (k := 3) (N := 6) (v9 := 2) (v := 9) (T := xF7) (hI := d_Store_filedAt_30) (hw := w_153) rfl xi7 (Or.inl rfl) (Nat.le_of_ble_eq_true rfl) (Nat.le_of_ble_eq_true rfl) rfl (ft_5 F) (fp_5_3 F) (fun f2_ => ?_)
    clear f2_
    refine xr_areturn (S := []) (pc := 33) (hI := d_Store_filedAt_33) (hr := rfl) (hrt := Or.inl ⟨_, rfl⟩) ?_
    exact hyp
  · replace hyp := hyp.2 q9
    have q1_ := q9
    clear q9
    refine xr_iload_n (pc := 4) (i := 1) (hI := d_Store_filedAt_4) (hi := rfl) (hl := rfl) ?_
    refine xr_aload_n (pc := 5) (i := 0) (hI := d_Store_filedAt_5) (hi := rfl) (hl := rfl) ?_
    refine xg_getf (pc := 6) (ci := 7) (k := 1) (N := 6) (v9 := 2) (v := 7) (T := xF7) (hI := d_Store_filedAt_6) (hw := w_150) rfl xi7 (Or.inl rfl) (Nat.le_of_ble_eq_true rfl) (Nat.le_of_ble_eq_true rfl) rfl (ft_5 F) (fp_5_1 F) (fun f3_ => ?_)
    clear f3_
    refine xq_callV (pc := 9) (index := 41) (K := m_ArrayList_size) (As := []) (S := [xI x1]) (L0 := [xR 7]) (hI := d_Store_filedAt_9) (hK := k_ArrayList_size) (hlk := w_464) (hnoM := rfl) (hS8 := Nat.le_of_ble_eq_true rfl) (ci := 13) (N := 3) (C := "java/util/ArrayList") (T := xF13) (hc := rfl) (hci := Nat.le_of_ble_eq_true rfl) (htb := (ft_7 F)) (hinst := w_465) (hsel := w_466) (hlen := Nat.le_of_ble_eq_true rfl) (hst := rfl) (hL0 := rfl)  (p_AL_size F p0.2.1 ?_)
    show xwp G m_Store_filedAt (d + 4) 12 [xR 5, xI x1] [xI (als h 7), xI x1] _ _ _
    have f4_ : 0 ≤ (als h 7) ∧ (als h 7) ≤ 1000000 := ⟨p0.2.1.2.2.1, p0.2.1.2.2.2.2⟩
    refine xr_icmp_ge (pc := 12) (tgt := 29) (hI := d_Store_filedAt_12) (ht := by decide) (fun q9 => ?_) (fun q9 => ?_)
    · replace hyp := hyp.1 q9
      have q5_ := q9
      clear q9
      refine xr_aload_n (pc := 29) (i := 0) (hI := d_Store_filedAt_29) (hi := rfl) (hl := rfl) ?_
      refine xg_getf (pc := 30) (ci := 7) (k := 3) (N := 6) (v9 := 2) (v := 9) (T := xF7) (hI := d_Store_filedAt_30) (hw := w_153) rfl xi7 (Or.inl rfl) (Nat.le_of_ble_eq_true rfl) (Nat.le_of_ble_eq_true rfl) rfl (ft_5 F) (fp_5_3 F) (fun f6_ => ?_)
      clear f6_
      refine xr_areturn (S := []) (pc := 33) (hI := d_Store_filedAt_33) (hr := rfl) (hrt := Or.inl ⟨_, rfl⟩) ?_
      exact hyp
    · replace hyp := hyp.2 q9
      have q5_ := q9
      clear q9
      refine xr_aload_n (pc := 15) (i := 0) (hI := d_Store_filedAt_15) (hi := rfl) (hl := rfl) ?_
      refine xg_getf (pc := 16) (ci := 7) (k := 1) (N := 6) (v9 := 2) (v := 7) (T := xF7) (hI := d_Store_filedAt_16) (hw := w_150) rfl xi7 (Or.inl rfl) (Nat.le_of_ble_eq_true rfl) (Nat.le_of_ble_eq_true rfl) rfl (ft_5 F) (fp_5_1 F) (fun f7_ => ?_)
      clear f7_
      refine xr_iload_n (pc := 19) (i := 1) (hI := d_Store_filedAt_19) (hi := rfl) (hl := rfl) ?_
      refine xq_callV (pc := 20) (index := 45) (K := m_ArrayList_get) (As := [xI x1]) (S := []) (L0 := [xR 7, xI x1]) (hI := d_Store_filedAt_20) (hK := k_ArrayList_get) (hlk := w_468) (hnoM := rfl) (hS8 := Nat.le_of_ble_eq_true rfl) (ci := 13) (N := 3) (C := "java/util/ArrayList") (T := xF13) (hc := rfl) (hci := Nat.le_of_ble_eq_true rfl) (htb := (ft_7 F)) (hinst := w_469) (hsel := w_470) (hlen := Nat.le_of_ble_eq_true rfl) (hst := rfl) (hL0 := rfl)  (p_AL_get F p0.2.1 (by clear hyp; omega) (by clear hyp; omega) ?_)
      show xwp G m_Store_filedAt (d + 4) 23 [xR 5, xI x1] [xR (alg h 7 x1)] _ _ _
      obtain ⟨c9, hyp⟩ := hyp
      have t8_ := c9
      clear c9
      refine xr_cast (pc := 23) (ci := 9) (T := xF9) (N := 6) (hI := d_Store_filedAt_23) w_113 rfl (Nat.le_of_ble_eq_true rfl) t8_ ?_
      refine xr_goto (pc := 26) (tgt := 33) (hI := d_Store_filedAt_26) (ht := by decide) ?_
      refine xr_areturn (S := []) (pc := 33) (hI := d_Store_filedAt_33) (hr := rfl) (hrt := Or.inl ⟨_, rfl⟩) ?_
      exact hyp
abbrev m_Store_placeInBuffer : XM := (⟨"BeaconIndex$Store", "placeInBuffer", "(I)I"⟩, prog_8_method_4_code, 3, (some .int), [])
theorem d_Store_placeInBuffer_0 : decode prog_8_method_4_code 0 = .ok (.iconst 0, 1) := by decide +kernel
theorem d_Store_placeInBuffer_1 : decode prog_8_method_4_code 1 = .ok (.istore_n 2, 1) := by decide +kernel
theorem v_Store_placeInBuffer_0 {G : XG} {d : Nat} {h : XH} {Q : XV → XH → Prop} {X : Nat → XH → Prop} {x1 : Int} (F : xFix h) (hyp : (xwp G m_Store_placeInBuffer (d + 4) 2 [xR 5, xI x1, xI 0] [] h Q X)) : xwp G m_Store_placeInBuffer (d + 4) 0 [xR 5, xI x1, xZ] [] h Q X := by
  have hnx9 : (93 : Int) ≤ xnx h := F.2.2
  refine xr_okL (fun hl9 => ?_)
  have r_x1 : -2147483648 ≤ x1 ∧ x1 ≤ 2147483647 := hl9 (xI x1) (.tail _ (.head _)) (Nat.le_of_ble_eq_true rfl)
  refine xr_iconst (pc := 0) (hI := d_Store_placeInBuffer_0) (hr := by decide) ?_
  refine xr_istore_n (pc := 1) (i := 2) (L9 := [xR 5, xI x1, xI 0]) (hI := d_Store_placeInBuffer_1) (hi := rfl) (hn := Nat.le_of_ble_eq_true rfl) (hL9 := rfl) ?_
  exact hyp
theorem d_Store_placeInBuffer_2 : decode prog_8_method_4_code 2 = .ok (.iload_n 2, 1) := by decide +kernel
theorem d_Store_placeInBuffer_3 : decode prog_8_method_4_code 3 = .ok (.aload_n 0, 1) := by decide +kernel
theorem d_Store_placeInBuffer_4 : decode prog_8_method_4_code 4 = .ok (.getfield 12, 3) := by decide +kernel
theorem d_Store_placeInBuffer_7 : decode prog_8_method_4_code 7 = .ok (.invokevirtual 41, 3) := by decide +kernel
theorem d_Store_placeInBuffer_10 : decode prog_8_method_4_code 10 = .ok (.if_icmp .ge 29, 3) := by decide +kernel
theorem d_Store_placeInBuffer_39 : decode prog_8_method_4_code 39 = .ok (.iconst (-1), 1) := by decide +kernel
theorem d_Store_placeInBuffer_40 : decode prog_8_method_4_code 40 = .ok (.ireturn, 1) := by decide +kernel
theorem d_Store_placeInBuffer_13 : decode prog_8_method_4_code 13 = .ok (.aload_n 0, 1) := by decide +kernel
theorem d_Store_placeInBuffer_14 : decode prog_8_method_4_code 14 = .ok (.getfield 12, 3) := by decide +kernel
theorem d_Store_placeInBuffer_17 : decode prog_8_method_4_code 17 = .ok (.iload_n 2, 1) := by decide +kernel
theorem d_Store_placeInBuffer_18 : decode prog_8_method_4_code 18 = .ok (.invokevirtual 45, 3) := by decide +kernel
theorem d_Store_placeInBuffer_21 : decode prog_8_method_4_code 21 = .ok (.checkcast 25, 3) := by decide +kernel
theorem d_Store_placeInBuffer_24 : decode prog_8_method_4_code 24 = .ok (.getfield 49, 3) := by decide +kernel
theorem w_120 : Cond.fieldLink "BeaconIndex$Store" 49 "BeaconIndex$Text" "key" "I" ∈ lw_tbl := List.mem_append_right _ (List.mem_of_getElem? (i := 120) (by decide +kernel))
theorem d_Store_placeInBuffer_27 : decode prog_8_method_4_code 27 = .ok (.iload_n 1, 1) := by decide +kernel
theorem d_Store_placeInBuffer_28 : decode prog_8_method_4_code 28 = .ok (.if_icmp .ne 5, 3) := by decide +kernel
theorem d_Store_placeInBuffer_33 : decode prog_8_method_4_code 33 = .ok (.iinc 2 1, 3) := by decide +kernel
theorem d_Store_placeInBuffer_36 : decode prog_8_method_4_code 36 = .ok (.goto (-34), 3) := by decide +kernel
theorem d_Store_placeInBuffer_31 : decode prog_8_method_4_code 31 = .ok (.iload_n 2, 1) := by decide +kernel
theorem d_Store_placeInBuffer_32 : decode prog_8_method_4_code 32 = .ok (.ireturn, 1) := by decide +kernel
theorem v_Store_placeInBuffer_2 {G : XG} {d : Nat} {h : XH} {Q : XV → XH → Prop} {X : Nat → XH → Prop} {x1 x2 : Int} (F : xFix h) (hyp : alok h 6 ∧ (((als h 6) ≤ x2 → (Q (xI (-1)) h)) ∧ (¬ (als h 6) ≤ x2 → 0 ≤ x2 ∧ xtg h (alg h 6 x2) = 9 ∧ (((xpl h (alg h 6 x2) 0) = x1 → (Q (xI x2) h)) ∧ (¬ (xpl h (alg h 6 x2) 0) = x1 → (xwp G m_Store_placeInBuffer (d + 4) 2 [xR 5, xI x1, xI (x2 + 1)] [] h Q X)))))) : xwp G m_Store_placeInBuffer (d + 4) 2 [xR 5, xI x1, xI x2] [] h Q X := by
  have hnx9 : (93 : Int) ≤ xnx h := F.2.2
  refine xr_okL (fun hl9 => ?_)
  have r_x1 : -2147483648 ≤ x1 ∧ x1 ≤ 2147483647 := hl9 (xI x1) (.tail _ (.head _)) (Nat.le_of_ble_eq_true rfl)
  have r_x2 : -2147483648 ≤ x2 ∧ x2 ≤ 2147483647 := hl9 (xI x2) (.tail _ (.tail _ (.head _))) (Nat.le_of_ble_eq_true rfl)
  refine xr_iload_n (pc := 2) (i := 2) (hI := d_Store_placeInBuffer_2) (hi := rfl) (hl := rfl) ?_
  refine xr_aload_n (pc := 3) (i := 0) (hI := d_Store_placeInBuffer_3) (hi := rfl) (hl := rfl) ?_
  refine xg_getf (pc := 4) (ci := 7) (k := 0) (N := 6) (v9 := 2) (v := 6) (T := xF7) (hI := d_Store_placeInBuffer_4) (hw := w_148) rfl xi7 (Or.inl rfl) (Nat.le_of_ble_eq_true rfl) (Nat.le_of_ble_eq_true rfl) rfl (ft_5 F) (fp_5_0 F) (fun f1_ => ?_)
  clear f1_
  obtain ⟨c2_, hyp⟩ := hyp
  refine xq_callV (pc := 7) (index := 41) (K := m_ArrayList_size) (As := []) (S := [xI x2]) (L0 := [xR 6]) (hI := d_Store_placeInBuffer_7) (hK := k_ArrayList_size) (hlk := w_464) (hnoM := rfl) (hS8 := Nat.le_of_ble_eq_true rfl) (ci := 13) (N := 3) (C := "java/util/ArrayList") (T := xF13) (hc := rfl) (hci := Nat.le_of_ble_eq_true rfl) (htb := (ft_6 F)) (hinst := w_465) (hsel := w_466) (hlen := Nat.le_of_ble_eq_true rfl) (hst := rfl) (hL0 := rfl)  (p_AL_size F c2_ ?_)
  show xwp G m_Store_placeInBuffer (d + 4) 10 [xR 5, xI x1, xI x2] [xI (als h 6), xI x2] _ _ _
  have f3_ : 0 ≤ (als h 6) ∧ (als h 6) ≤ 1000000 := ⟨c2_.2.2.1, c2_.2.2.2.2⟩
  refine xr_icmp_ge (pc := 10) (tgt := 39) (hI := d_Store_placeInBuffer_10) (ht := by decide) (fun q9 => ?_) (fun q9 => ?_)
  · replace hyp := hyp.1 q9
    have q4_ := q9
    clear q9
    refine xr_iconst (pc := 39) (hI := d_Store_placeInBuffer_39) (hr := by decide) ?_
    refine xr_ireturn (S := []) (pc := 40) (hI := d_Store_placeInBuffer_40) (hr := rfl) ?_
    exact hyp
  · replace hyp := hyp.2 q9
    have q4_ := q9
    clear q9
    refine xr_aload_n (pc := 13) (i := 0) (hI := d_Store_placeInBuffer_13) (hi := rfl) (hl := rfl) ?_
    refine xg_getf (pc := 14) (ci := 7) (k := 0) (N := 6) (v9 := 2) (v := 6) (T := xF7) (hI := d_Store_placeInBuffer_14) (hw := w_148) rfl xi7 (Or.inl rfl) (Nat.le_of_ble_eq_true rfl) (Nat.le_of_ble_eq_true rfl) rfl (ft_5 F) (fp_5_0 F) (fun f5_ => ?_)
    clear f5_
    refine xr_iload_n (pc := 17) (i := 2) (hI := d_Store_placeInBuffer_17) (hi := rfl) (hl := rfl) ?_
    obtain ⟨c6_, hyp⟩ := hyp
    refine xq_callV (pc := 18) (index := 45) (K := m_ArrayList_get) (As := [xI x2]) (S := []) (L0 := [xR 6, xI x2]) (hI := d_Store_placeInBuffer_18) (hK := k_ArrayList_get) (hlk := w_468) (hnoM := rfl) (hS8 := Nat.le_of_ble_eq_true rfl) (ci := 13) (N := 3) (C := "java/util/ArrayList") (T := xF13) (hc := rfl) (hci := Nat.le_of_ble_eq_true rfl) (htb := (ft_6 F)) (hinst := w_469) (hsel := w_470) (hlen := Nat.le_of_ble_eq_true rfl) (hst := rfl) (hL0 := rfl)  (p_AL_get F c2_ c6_ (by clear hyp; omega) ?_)
    show xwp G m_Store_placeInBuffer (d + 4) 21 [xR 5, xI x1, xI x2] [xR (alg h 6 x2)] _ _ _
    obtain ⟨c9, hyp⟩ := hyp
    have t7_ := c9
    clear c9
    refine xr_cast (pc := 21) (ci := 9) (T := xF9) (N := 6) (hI := d_Store_placeInBuffer_21) w_113 rfl (Nat.le_of_ble_eq_true rfl) t7_ ?_
    refine xg_getf (pc := 24) (ci := 9) (k := 0) (N := 6) (v9 := 0) (v := (xpl h (alg h 6 x2) 0)) (T := xF9) (hI := d_Store_placeInBuffer_24) (hw := w_120) rfl xi9 (Or.inl rfl) (Nat.le_of_ble_eq_true rfl) (Nat.le_of_ble_eq_true rfl) rfl t7_ rfl (fun f8_ => ?_)
    replace f8_ : -2147483648 ≤ (xpl h (alg h 6 x2) 0) ∧ (xpl h (alg h 6 x2) 0) ≤ 2147483647 := f8_
    refine xr_iload_n (pc := 27) (i := 1) (hI := d_Store_placeInBuffer_27) (hi := rfl) (hl := rfl) ?_
    refine xr_icmp_ne (pc := 28) (tgt := 33) (hI := d_Store_placeInBuffer_28) (ht := by decide) (fun q9 => ?_) (fun q9 => ?_)
    · replace hyp := hyp.2 q9
      have q9_ := q9
      clear q9
      refine xr_iinc (pc := 33) (i := 2) (L9 := [xR 5, xI x1, xI (x2 + 1)]) (hI := d_Store_placeInBuffer_33) (hl := rfl) (hn := Nat.le_of_ble_eq_true rfl) (hr := ⟨by clear hyp; omega, by clear hyp; omega⟩) (hL9 := rfl) ?_
      refine xr_goto (pc := 36) (tgt := 2) (hI := d_Store_placeInBuffer_36) (ht := by decide) ?_
      exact hyp
    · replace hyp := hyp.1 q9
      have q9_ := q9
      clear q9
      refine xr_iload_n (pc := 31) (i := 2) (hI := d_Store_placeInBuffer_31) (hi := rfl) (hl := rfl) ?_
      refine xr_ireturn (S := []) (pc := 32) (hI := d_Store_placeInBuffer_32) (hr := rfl) ?_
      exact hyp
abbrev m_Store_placeInSegments : XM := (⟨"BeaconIndex$Store", "placeInSegments", "(I)I"⟩, prog_8_method_5_code, 4, (some .int), [])
theorem d_Store_placeInSegments_0 : decode prog_8_method_5_code 0 = .ok (.iconst 0, 1) := by decide +kernel
theorem d_Store_placeInSegments_1 : decode prog_8_method_5_code 1 = .ok (.istore_n 2, 1) := by decide +kernel
theorem v_Store_placeInSegments_0 {G : XG} {d : Nat} {h : XH} {Q : XV → XH → Prop} {X : Nat → XH → Prop} {x1 : Int} (F : xFix h) (hyp : (xwp G m_Store_placeInSegments (d + 4) 2 [xR 5, xI x1, xI 0, xZ] [] h Q X)) : xwp G m_Store_placeInSegments (d + 4) 0 [xR 5, xI x1, xZ, xZ] [] h Q X := by
  have hnx9 : (93 : Int) ≤ xnx h := F.2.2
  refine xr_okL (fun hl9 => ?_)
  have r_x1 : -2147483648 ≤ x1 ∧ x1 ≤ 2147483647 := hl9 (xI x1) (.tail _ (.head _)) (Nat.le_of_ble_eq_true rfl)
  refine xr_iconst (pc := 0) (hI := d_Store_placeInSegments_0) (hr := by decide) ?_
  refine xr_istore_n (pc := 1) (i := 2) (L9 := [xR 5, xI x1, xI 0, xZ]) (hI := d_Store_placeInSegments_1) (hi := rfl) (hn := Nat.le_of_ble_eq_true rfl) (hL9 := rfl) ?_
  exact hyp
theorem d_Store_placeInSegments_2 : decode prog_8_method_5_code 2 = .ok (.iload_n 2, 1) := by decide +kernel
theorem d_Store_placeInSegments_3 : decode prog_8_method_5_code 3 = .ok (.aload_n 0, 1) := by decide +kernel
theorem d_Store_placeInSegments_4 : decode prog_8_method_5_code 4 = .ok (.getfield 18, 3) := by decide +kernel
theorem d_Store_placeInSegments_7 : decode prog_8_method_5_code 7 = .ok (.invokevirtual 41, 3) := by decide +kernel
theorem d_Store_placeInSegments_10 : decode prog_8_method_5_code 10 = .ok (.if_icmp .ge 38, 3) := by decide +kernel
theorem d_Store_placeInSegments_48 : decode prog_8_method_5_code 48 = .ok (.iconst (-1), 1) := by decide +kernel
theorem d_Store_placeInSegments_49 : decode prog_8_method_5_code 49 = .ok (.ireturn, 1) := by decide +kernel
theorem d_Store_placeInSegments_13 : decode prog_8_method_5_code 13 = .ok (.aload_n 0, 1) := by decide +kernel
theorem d_Store_placeInSegments_14 : decode prog_8_method_5_code 14 = .ok (.getfield 18, 3) := by decide +kernel
theorem d_Store_placeInSegments_17 : decode prog_8_method_5_code 17 = .ok (.iload_n 2, 1) := by decide +kernel
theorem d_Store_placeInSegments_18 : decode prog_8_method_5_code 18 = .ok (.invokevirtual 45, 3) := by decide +kernel
theorem d_Store_placeInSegments_21 : decode prog_8_method_5_code 21 = .ok (.checkcast 25, 3) := by decide +kernel
theorem d_Store_placeInSegments_24 : decode prog_8_method_5_code 24 = .ok (.astore_n 3, 1) := by decide +kernel
theorem d_Store_placeInSegments_25 : decode prog_8_method_5_code 25 = .ok (.aload_n 3, 1) := by decide +kernel
theorem d_Store_placeInSegments_26 : decode prog_8_method_5_code 26 = .ok (.getfield 49, 3) := by decide +kernel
theorem d_Store_placeInSegments_29 : decode prog_8_method_5_code 29 = .ok (.iload_n 1, 1) := by decide +kernel
theorem d_Store_placeInSegments_30 : decode prog_8_method_5_code 30 = .ok (.if_icmp .ne 12, 3) := by decide +kernel
theorem d_Store_placeInSegments_42 : decode prog_8_method_5_code 42 = .ok (.iinc 2 1, 3) := by decide +kernel
theorem d_Store_placeInSegments_45 : decode prog_8_method_5_code 45 = .ok (.goto (-43), 3) := by decide +kernel
theorem d_Store_placeInSegments_33 : decode prog_8_method_5_code 33 = .ok (.aload_n 3, 1) := by decide +kernel
theorem d_Store_placeInSegments_34 : decode prog_8_method_5_code 34 = .ok (.getfield 52, 3) := by decide +kernel
theorem w_132 : Cond.fieldLink "BeaconIndex$Store" 52 "BeaconIndex$Text" "marked" "Z" ∈ lw_tbl := List.mem_append_right _ (List.mem_of_getElem? (i := 132) (by decide +kernel))
theorem d_Store_placeInSegments_37 : decode prog_8_method_5_code 37 = .ok (.ifCond .ne 5, 3) := by decide +kernel
theorem d_Store_placeInSegments_40 : decode prog_8_method_5_code 40 = .ok (.iload_n 2, 1) := by decide +kernel
theorem d_Store_placeInSegments_41 : decode prog_8_method_5_code 41 = .ok (.ireturn, 1) := by decide +kernel
theorem v_Store_placeInSegments_2 {G : XG} {d : Nat} {h : XH} {Q : XV → XH → Prop} {X : Nat → XH → Prop} {x1 x2 : Int} (F : xFix h) (hyp : alok h 7 ∧ (((als h 7) ≤ x2 → (Q (xI (-1)) h)) ∧ (¬ (als h 7) ≤ x2 → 0 ≤ x2 ∧ xtg h (alg h 7 x2) = 9 ∧ (((xpl h (alg h 7 x2) 0) = x1 → (((xpl h (alg h 7 x2) 5) = 0 → (Q (xI x2) h)) ∧ (¬ (xpl h (alg h 7 x2) 5) = 0 → (xwp G m_Store_placeInSegments (d + 4) 2 [xR 5, xI x1, xI (x2 + 1), xZ] [] h Q X)))) ∧ (¬ (xpl h (alg h 7 x2) 0) = x1 → (xwp G m_Store_placeInSegments (d + 4) 2 [xR 5, xI x1, xI (x2 + 1), xZ] [] h Q X)))))) : xwp G m_Store_placeInSegments (d + 4) 2 [xR 5, xI x1, xI x2, xZ] [] h Q X := by
  have hnx9 : (93 : Int) ≤ xnx h := F.2.2
  refine xr_okL (fun hl9 => ?_)
  have r_x1 : -2147483648 ≤ x1 ∧ x1 ≤ 2147483647 := hl9 (xI x1) (.tail _ (.head _)) (Nat.le_of_ble_eq_true rfl)
  have r_x2 : -2147483648 ≤ x2 ∧ x2 ≤ 2147483647 := hl9 (xI x2) (.tail _ (.tail _ (.head _))) (Nat.le_of_ble_eq_true rfl)
  refine xr_iload_n (pc := 2) (i := 2) (hI := d_Store_placeInSegments_2) (hi := rfl) (hl := rfl) ?_
  refine xr_aload_n (pc := 3) (i := 0) (hI := d_Store_placeInSegments_3) (hi := rfl) (hl := rfl) ?_
  refine xg_getf (pc := 4) (ci := 7) (k := 1) (N := 6) (v9 := 2) (v := 7) (T := xF7) (hI := d_Store_placeInSegments_4) (hw := w_150) rfl xi7 (Or.inl rfl) (Nat.le_of_ble_eq_true rfl) (Nat.le_of_ble_eq_true rfl) rfl (ft_5 F) (fp_5_1 F) (fun f1_ => ?_)
  clear f1_
  obtain ⟨c2_, hyp⟩ := hyp
  refine xq_callV (pc := 7) (index := 41) (K := m_ArrayList_size) (As := []) (S := [xI x2]) (L0 := [xR 7]) (hI := d_Store_placeInSegments_7) (hK := k_ArrayList_size) (hlk := w_464) (hnoM := rfl) (hS8 := Nat.le_of_ble_eq_true rfl) (ci := 13) (N := 3) (C := "java/util/ArrayList") (T := xF13) (hc := rfl) (hci := Nat.le_of_ble_eq_true rfl) (htb := (ft_7 F)) (hinst := w_465) (hsel := w_466) (hlen := Nat.le_of_ble_eq_true rfl) (hst := rfl) (hL0 := rfl)  (p_AL_size F c2_ ?_)
  show xwp G m_Store_placeInSegments (d + 4) 10 [xR 5, xI x1, xI x2, xZ] [xI (als h 7), xI x2] _ _ _
  have f3_ : 0 ≤ (als h 7) ∧ (als h 7) ≤ 1000000 := ⟨c2_.2.2.1, c2_.2.2.2.2⟩
  refine xr_icmp_ge (pc := 10) (tgt := 48) (hI := d_Store_placeInSegments_10) (ht := by decide) (fun q9 => ?_) (fun q9 => ?_)
  · replace hyp := hyp.1 q9
    have q4_ := q9
    clear q9
    refine xr_iconst (pc := 48) (hI := d_Store_placeInSegments_48) (hr := by decide) ?_
    refine xr_ireturn (S := []) (pc := 49) (hI := d_Store_placeInSegments_49) (hr := rfl) ?_
    exact hyp
  · replace hyp := hyp.2 q9
    have q4_ := q9
    clear q9
    refine xr_aload_n (pc := 13) (i := 0) (hI := d_Store_placeInSegments_13) (hi := rfl) (hl := rfl) ?_
    refine xg_getf (pc := 14) (ci := 7) (k := 1) (N := 6) (v9 := 2) (v := 7) (T := xF7) (hI := d_Store_placeInSegments_14) (hw := w_150) rfl xi7 (Or.inl rfl) (Nat.le_of_ble_eq_true rfl) (Nat.le_of_ble_eq_true rfl) rfl (ft_5 F) (fp_5_1 F) (fun f5_ => ?_)
    clear f5_
    refine xr_iload_n (pc := 17) (i := 2) (hI := d_Store_placeInSegments_17) (hi := rfl) (hl := rfl) ?_
    obtain ⟨c6_, hyp⟩ := hyp
    refine xq_callV (pc := 18) (index := 45) (K := m_ArrayList_get) (As := [xI x2]) (S := []) (L0 := [xR 7, xI x2]) (hI := d_Store_placeInSegments_18) (hK := k_ArrayList_get) (hlk := w_468) (hnoM := rfl) (hS8 := Nat.le_of_ble_eq_true rfl) (ci := 13) (N := 3) (C := "java/util/ArrayList") (T := xF13) (hc := rfl) (hci := Nat.le_of_ble_eq_true rfl) (htb := (ft_7 F)) (hinst := w_469) (hsel := w_470) (hlen := Nat.le_of_ble_eq_true rfl) (hst := rfl) (hL0 := rfl)  (p_AL_get F c2_ c6_ (by clear hyp; omega) ?_)
    show xwp G m_Store_placeInSegments (d + 4) 21 [xR 5, xI x1, xI x2, xZ] [xR (alg h 7 x2)] _ _ _
    obtain ⟨c9, hyp⟩ := hyp
    have t7_ := c9
    clear c9
    refine xr_cast (pc := 21) (ci := 9) (T := xF9) (N := 6) (hI := d_Store_placeInSegments_21) w_113 rfl (Nat.le_of_ble_eq_true rfl) t7_ ?_
    refine xr_astore_n (pc := 24) (i := 3) (L9 := [xR 5, xI x1, xI x2, xR (alg h 7 x2)]) (hI := d_Store_placeInSegments_24) (hi := rfl) (hn := Nat.le_of_ble_eq_true rfl) (hL9 := rfl) ?_
    refine xr_aload_n (pc := 25) (i := 3) (hI := d_Store_placeInSegments_25) (hi := rfl) (hl := rfl) ?_
    refine xg_getf (pc := 26) (ci := 9) (k := 0) (N := 6) (v9 := 0) (v := (xpl h (alg h 7 x2) 0)) (T := xF9) (hI := d_Store_placeInSegments_26) (hw := w_120) rfl xi9 (Or.inl rfl) (Nat.le_of_ble_eq_true rfl) (Nat.le_of_ble_eq_true rfl) rfl t7_ rfl (fun f8_ => ?_)
    replace f8_ : -2147483648 ≤ (xpl h (alg h 7 x2) 0) ∧ (xpl h (alg h 7 x2) 0) ≤ 2147483647 := f8_
    refine xr_iload_n (pc := 29) (i := 1) (hI := d_Store_placeInSegments_29) (hi := rfl) (hl := rfl) ?_
    refine xr_icmp_ne (pc := 30) (tgt := 42) (hI := d_Store_placeInSegments_30) (ht := by decide) (fun q9 => ?_) (fun q9 => ?_)
    · replace hyp := hyp.2 q9
      have q9_ := q9
      clear q9
      refine xr_iinc (pc := 42) (i := 2) (L9 := [xR 5, xI x1, xI (x2 + 1), xR (alg h 7 x2)]) (hI := d_Store_placeInSegments_42) (hl := rfl) (hn := Nat.le_of_ble_eq_true rfl) (hr := ⟨by clear hyp; omega, by clear hyp; omega⟩) (hL9 := rfl) ?_
      refine xr_goto (pc := 45) (tgt := 2) (hI := d_Store_placeInSegments_45) (ht := by decide) ?_
      exact xr_drop (L9 := [xR 5, xI x1, xI (x2 + 1), xZ]) (xdrs (xdrs (xdrs (xdrz xdr0)))) hyp
    · replace hyp := hyp.1 q9
      have q9_ := q9
      clear q9
      refine xr_aload_n (pc := 33) (i := 3) (hI := d_Store_placeInSegments_33) (hi := rfl) (hl := rfl) ?_
      refine xg_getfZ (pc := 34) (ci := 9) (k := 5) (N := 6) (v := (xpl h (alg h 7 x2) 5)) (T := xF9) (hI := d_Store_placeInSegments_34) (hw := w_132) rfl xi9 (Or.inl rfl) (Nat.le_of_ble_eq_true rfl) (Nat.le_of_ble_eq_true rfl) rfl t7_ rfl (fun f10_ => ?_)
      refine xr_if_ne (pc := 37) (tgt := 42) (hI := d_Store_placeInSegments_37) (ht := by decide) (fun q9 => ?_) (fun q9 => ?_)
      · replace hyp := hyp.2 q9
        have q11_ := q9
        clear q9
        refine xr_iinc (pc := 42) (i := 2) (L9 := [xR 5, xI x1, xI (x2 + 1), xR (alg h 7 x2)]) (hI := d_Store_placeInSegments_42) (hl := rfl) (hn := Nat.le_of_ble_eq_true rfl) (hr := ⟨by clear hyp; omega, by clear hyp; omega⟩) (hL9 := rfl) ?_
        refine xr_goto (pc := 45) (tgt := 2) (hI := d_Store_placeInSegments_45) (ht := by decide) ?_
        exact xr_drop (L9 := [xR 5, xI x1, xI (x2 + 1), xZ]) (xdrs (xdrs (xdrs (xdrz xdr0)))) hyp
      · replace hyp := hyp.1 q9
        have q11_ := q9
        clear q9
        refine xr_iload_n (pc := 40) (i := 2) (hI := d_Store_placeInSegments_40) (hi := rfl) (hl := rfl) ?_
        refine xr_ireturn (S := []) (pc := 41) (hI := d_Store_placeInSegments_41) (hr := rfl) ?_
        exact hyp
abbrev m_Store_sizeOf : XM := (⟨"BeaconIndex$Store", "sizeOf", "(I)I"⟩, prog_8_method_7_code, 2, (some .int), [])
theorem d_Store_sizeOf_0 : decode prog_8_method_7_code 0 = .ok (.iload_n 1, 1) := by decide +kernel
theorem d_Store_sizeOf_1 : decode prog_8_method_7_code 1 = .ok (.ifCond .lt 29, 3) := by decide +kernel
theorem d_Store_sizeOf_30 : decode prog_8_method_7_code 30 = .ok (.iconst 0, 1) := by decide +kernel
theorem d_Store_sizeOf_31 : decode prog_8_method_7_code 31 = .ok (.ireturn, 1) := by decide +kernel
theorem d_Store_sizeOf_4 : decode prog_8_method_7_code 4 = .ok (.iload_n 1, 1) := by decide +kernel
theorem d_Store_sizeOf_5 : decode prog_8_method_7_code 5 = .ok (.aload_n 0, 1) := by decide +kernel
theorem d_Store_sizeOf_6 : decode prog_8_method_7_code 6 = .ok (.getfield 34, 3) := by decide +kernel
theorem w_154 : Cond.fieldLink "BeaconIndex$Store" 34 "BeaconIndex$Store" "segmentCount" "I" ∈ lw_tbl := List.mem_append_right _ (List.mem_of_getElem? (i := 154) (by decide +kernel))
theorem d_Store_sizeOf_9 : decode prog_8_method_7_code 9 = .ok (.if_icmp .ge 21, 3) := by decide +kernel
theorem d_Store_sizeOf_12 : decode prog_8_method_7_code 12 = .ok (.iload_n 1, 1) := by decide +kernel
theorem d_Store_sizeOf_13 : decode prog_8_method_7_code 13 = .ok (.aload_n 0, 1) := by decide +kernel
theorem d_Store_sizeOf_14 : decode prog_8_method_7_code 14 = .ok (.getfield 21, 3) := by decide +kernel
theorem w_152 : Cond.fieldLink "BeaconIndex$Store" 21 "BeaconIndex$Store" "sizes" "[I" ∈ lw_tbl := List.mem_append_right _ (List.mem_of_getElem? (i := 152) (by decide +kernel))
theorem d_Store_sizeOf_17 : decode prog_8_method_7_code 17 = .ok (.arraylength, 1) := by decide +kernel
theorem d_Store_sizeOf_18 : decode prog_8_method_7_code 18 = .ok (.if_icmp .ge 12, 3) := by decide +kernel
theorem d_Store_sizeOf_21 : decode prog_8_method_7_code 21 = .ok (.aload_n 0, 1) := by decide +kernel
theorem d_Store_sizeOf_22 : decode prog_8_method_7_code 22 = .ok (.getfield 21, 3) := by decide +kernel
theorem d_Store_sizeOf_25 : decode prog_8_method_7_code 25 = .ok (.iload_n 1, 1) := by decide +kernel
theorem d_Store_sizeOf_26 : decode prog_8_method_7_code 26 = .ok (.iaload, 1) := by decide +kernel
theorem d_Store_sizeOf_27 : decode prog_8_method_7_code 27 = .ok (.goto 4, 3) := by decide +kernel
theorem v_Store_sizeOf_0 {G : XG} {d : Nat} {h : XH} {Q : XV → XH → Prop} {X : Nat → XH → Prop} {x1 : Int} (F : xFix h) (hyp : ((x1 < 0 → (Q (xI 0) h)) ∧ (¬ x1 < 0 → (((xpl h 5 4) ≤ x1 → (Q (xI 0) h)) ∧ (¬ (xpl h 5 4) ≤ x1 → (((60 : Int) ≤ x1 → (Q (xI 0) h)) ∧ (¬ (60 : Int) ≤ x1 → (Q (xI (xpl h 8 x1)) h)))))))) : xwp G m_Store_sizeOf (d + 1) 0 [xR 5, xI x1] [] h Q X := by
  have hnx9 : (93 : Int) ≤ xnx h := F.2.2
  refine xr_okL (fun hl9 => ?_)
  have r_x1 : -2147483648 ≤ x1 ∧ x1 ≤ 2147483647 := hl9 (xI x1) (.tail _ (.head _)) (Nat.le_of_ble_eq_true rfl)
  refine xr_iload_n (pc := 0) (i := 1) (hI := d_Store_sizeOf_0) (hi := rfl) (hl := rfl) ?_
  refine xr_if_lt (pc := 1) (tgt := 30) (hI := d_Store_sizeOf_1) (ht := by decide) (fun q9 => ?_) (fun q9 => ?_)
  · replace hyp := hyp.1 q9
    have q1_ := q9
    clear q9
    refine xr_iconst (pc := 30) (hI := d_Store_sizeOf_30) (hr := by decide) ?_
    refine xr_ireturn (S := []) (pc := 31) (hI := d_Store_sizeOf_31) (hr := rfl) ?_
    exact hyp
  · replace hyp := hyp.2 q9
    have q1_ := q9
    clear q9
    refine xr_iload_n (pc := 4) (i := 1) (hI := d_Store_sizeOf_4) (hi := rfl) (hl := rfl) ?_
    refine xr_aload_n (pc := 5) (i := 0) (hI := d_Store_sizeOf_5) (hi := rfl) (hl := rfl) ?_
    refine xg_getf (pc := 6) (ci := 7) (k := 4) (N := 6) (v9 := 0) (v := (xpl h 5 4)) (T := xF7) (hI := d_Store_sizeOf_6) (hw := w_154) rfl xi7 (Or.inl rfl) (Nat.le_of_ble_eq_true rfl) (Nat.le_of_ble_eq_true rfl) rfl (ft_5 F) rfl (fun f2_ => ?_)
    replace f2_ : -2147483648 ≤ (xpl h 5 4) ∧ (xpl h 5 4) ≤ 2147483647 := f2_
    refine xr_icmp_ge (pc := 9) (tgt := 30) (hI := d_Store_sizeOf_9) (ht := by decide) (fun q9 => ?_) (fun q9 => ?_)
    · replace hyp := hyp.1 q9
      have q3_ := q9
      clear q9
      refine xr_iconst (pc := 30) (hI := d_Store_sizeOf_30) (hr := by decide) ?_
      refine xr_ireturn (S := []) (pc := 31) (hI := d_Store_sizeOf_31) (hr := rfl) ?_
      exact hyp
    · replace hyp := hyp.2 q9
      have q3_ := q9
      clear q9
      refine xr_iload_n (pc := 12) (i := 1) (hI := d_Store_sizeOf_12) (hi := rfl) (hl := rfl) ?_
      refine xr_aload_n (pc := 13) (i := 0) (hI := d_Store_sizeOf_13) (hi := rfl) (hl := rfl) ?_
      refine xg_getf (pc := 14) (ci := 7) (k := 2) (N := 6) (v9 := 2) (v := 8) (T := xF7) (hI := d_Store_sizeOf_14) (hw := w_152) rfl xi7 (Or.inl rfl) (Nat.le_of_ble_eq_true rfl) (Nat.le_of_ble_eq_true rfl) rfl (ft_5 F) (fp_5_2 F) (fun f4_ => ?_)
      clear f4_
      refine xg_alen (pc := 17) (t := 100) (v := 60) (hI := d_Store_sizeOf_17) (ft_8 F) (Nat.le_of_ble_eq_true rfl) (Nat.le_of_ble_eq_true rfl) rfl (fl_8 F) (fun f5_ f6_ => ?_)
      clear f5_ f6_
      refine xr_icmp_ge (pc := 18) (tgt := 30) (hI := d_Store_sizeOf_18) (ht := by decide) (fun q9 => ?_) (fun q9 => ?_)
      · replace hyp := hyp.1 q9
        have q7_ := q9
        clear q9
        refine xr_iconst (pc := 30) (hI := d_Store_sizeOf_30) (hr := by decide) ?_
        refine xr_ireturn (S := []) (pc := 31) (hI := d_Store_sizeOf_31) (hr := rfl) ?_
        exact hyp
      · replace hyp := hyp.2 q9
        have q7_ := q9
        clear q9
        refine xr_aload_n (pc := 21) (i := 0) (hI := d_Store_sizeOf_21) (hi := rfl) (hl := rfl) ?_
        refine xg_getf (pc := 22) (ci := 7) (k := 2) (N := 6) (v9 := 2) (v := 8) (T := xF7) (hI := d_Store_sizeOf_22) (hw := w_152) rfl xi7 (Or.inl rfl) (Nat.le_of_ble_eq_true rfl) (Nat.le_of_ble_eq_true rfl) rfl (ft_5 F) (fp_5_2 F) (fun f8_ => ?_)
        clear f8_
        refine xr_iload_n (pc := 25) (i := 1) (hI := d_Store_sizeOf_25) (hi := rfl) (hl := rfl) ?_
        refine xg_iaload (pc := 26) (v := (xpl h 8 x1)) (hI := d_Store_sizeOf_26) (ft_8 F) (by clear hyp; omega) (xlt_of (fl_8 F) (by clear hyp; omega)) rfl (fun f9_ => ?_)
        replace f9_ : -2147483648 ≤ (xpl h 8 x1) ∧ (xpl h 8 x1) ≤ 2147483647 := f9_
        refine xr_goto (pc := 27) (tgt := 31) (hI := d_Store_sizeOf_27) (ht := by decide) ?_
        refine xr_ireturn (S := []) (pc := 31) (hI := d_Store_sizeOf_31) (hr := rfl) ?_
        exact hyp
theorem kp_iff {h : XH} {p k : Int} : (fun t : Txt => decide (t.1 = k)) (textAt h p) = true ↔ xpl h p 0 = k := decide_eq_true_iff
theorem sp_iff {h : XH} {p k : Int} : (fun t : Txt × Bool => decide (t.1.1 = k) && !t.2) (textAt h p, decide (xpl h p 5 ≠ 0)) = true ↔ xpl h p 0 = k ∧ xpl h p 5 = 0 := by
  show (decide (xpl h p 0 = k) && !decide (xpl h p 5 ≠ 0)) = true ↔ _
  simp
theorem idxI_none2 {α : Type} {p : α → Bool} {l : List α} (h : ∀ j : Nat, j < l.length → ∀ a, l[j]? = some a → ¬ p a = true) : idxI p l = -1 :=
  idxI_none p l fun a ha => by
    obtain ⟨j, hj⟩ := List.getElem?_of_mem ha
    exact h j (List.getElem?_eq_some_iff.mp hj).1 a hj
theorem p_Store_textCount {G : XG} {d : Nat} {h : XH} {Q : XV → XH → Prop} {X : Nat → XH → Prop} (F : xFix h) (p0 : stok h) (hq : Q (xI (als h 6 + als h 7)) h) : xwp G m_Store_textCount (d + 2) 0 [xR 5] [] h Q X := by
  refine v_Store_textCount_0 F p0 ?_
  exact hq
def fat (h : XH) (p : Int) : Int := if 0 ≤ p ∧ p < als h 7 then alg h 7 p else 9
theorem txok9 {h : XH} (F : xFix h) : txok h 9 := by
  refine ⟨ft_9 F, by rw [fp_9_3 F]; exact ft_10 F, by rw [fp_9_4 F]; exact ft_11 F, ?_, ?_⟩
  · rw [fp_9_3 F, fl_10 F]; decide
  · rw [fp_9_4 F, fl_11 F]; decide
theorem fat_ok {h : XH} (F : xFix h) (p0 : stok h) (p : Int) : txok h (fat h p) := by
  unfold fat
  split
  · rename_i z; exact p0.2.2.2.1 p z.1 z.2
  · exact txok9 F
theorem p_Store_filedAt {G : XG} {d : Nat} {h : XH} {Q : XV → XH → Prop} {X : Nat → XH → Prop} {p : Int} (F : xFix h) (p0 : stok h) (hq : Q (xR (fat h p)) h) : xwp G m_Store_filedAt (d + 4) 0 [xR 5, xI p] [] h Q X := by
  unfold fat at hq
  refine v_Store_filedAt_0 F p0 ?_
  refine ⟨fun q1 => ?_, fun q1 => ?_⟩
  · rw [if_neg (by omega)] at hq; exact hq
  · refine ⟨fun q2 => ?_, fun q2 => ?_⟩
    · rw [if_neg (by omega)] at hq; exact hq
    · refine ⟨?_, ?_⟩
      · exact (p0.2.2.2.1 p (by omega) (by omega)).1
      · rw [if_pos ⟨by omega, by omega⟩] at hq; exact hq
theorem p_Store_placeInBuffer {G : XG} {d : Nat} {h : XH} {Q : XV → XH → Prop} {X : Nat → XH → Prop} {k : Int} (F : xFix h) (p0 : stok h) (hq : Q (xI (kidx (bufL h) k)) h) : xwp G m_Store_placeInBuffer (d + 4) 0 [xR 5, xI k, xZ] [] h Q X := by
  have hl := bufL_len h
  have hp := p0.1.2.2.1
  have loop : ∀ (n i : Nat), (i + n : Int) = als h 6 → (∀ j : Nat, j < i → xpl h (alg h 6 j) 0 ≠ k) → xwp G m_Store_placeInBuffer (d + 4) 2 [xR 5, xI k, xI i] [] h Q X := by
    intro n
    induction n with
    | zero =>
      intro i i1 hj
      refine v_Store_placeInBuffer_2 F ?_
      refine ⟨?_, ?_⟩
      · first | exact p0.1 | omega
      · refine ⟨fun q1 => ?_, fun q1 => ?_⟩
        · have : kidx (bufL h) k = -1 := idxI_none2 fun j hj2 a ha => by
            rw [bufL_at (by omega)] at ha
            cases ha
            exact fun z => hj j (by omega) (kp_iff.mp z)
          rw [this] at hq; exact hq
        · refine ⟨?_, ?_⟩
          · first | exact p0.1 | omega
          · refine ⟨?_, ?_⟩
            · omega
            · refine ⟨fun q2 => ?_, fun q2 => ?_⟩
              · omega
              · omega
    | succ n ih =>
      intro i i1 hj
      refine v_Store_placeInBuffer_2 F ?_
      refine ⟨?_, ?_⟩
      · first | exact p0.1 | omega | exact (p0.2.2.1 i (by omega) (by omega)).1
      · refine ⟨fun q1 => ?_, fun q1 => ?_⟩
        · omega
        · refine ⟨?_, ?_⟩
          · first | exact p0.1 | omega | exact (p0.2.2.1 i (by omega) (by omega)).1
          · refine ⟨?_, ?_⟩
            · first | exact p0.1 | omega | exact (p0.2.2.1 i (by omega) (by omega)).1
            · refine ⟨fun q2 => ?_, fun q2 => ?_⟩
              · have : kidx (bufL h) k = i := idxI_drop _ _ i (by omega) (fun j hj2 a ha => by
                  rw [bufL_at (by omega)] at ha
                  cases ha
                  exact fun z => hj j hj2 (kp_iff.mp z)) _ (bufL_at (by omega)) (kp_iff.mpr q2)
                rw [this] at hq; exact hq
              · refine ih (i + 1) (by omega) (fun j hj2 => ?_)
                by_cases z : j = i
                · subst z; exact q2
                · exact hj j (by omega)
  refine v_Store_placeInBuffer_0 F ?_
  exact loop (als h 6).toNat 0 (by omega) (fun j hj => absurd hj (Nat.not_lt_zero j))
theorem p_Store_placeInSegments {G : XG} {d : Nat} {h : XH} {Q : XV → XH → Prop} {X : Nat → XH → Prop} {k : Int} (F : xFix h) (p0 : stok h) (hq : Q (xI (sidx (filL h) k)) h) : xwp G m_Store_placeInSegments (d + 4) 0 [xR 5, xI k, xZ, xZ] [] h Q X := by
  have hl := filL_len h
  have hp := p0.2.1.2.2.1
  have loop : ∀ (n i : Nat), (i + n : Int) = als h 7 → (∀ j : Nat, j < i → ¬ (xpl h (alg h 7 j) 0 = k ∧ xpl h (alg h 7 j) 5 = 0)) → xwp G m_Store_placeInSegments (d + 4) 2 [xR 5, xI k, xI i, xZ] [] h Q X := by
    intro n
    induction n with
    | zero =>
      intro i i1 hj
      refine v_Store_placeInSegments_2 F ?_
      refine ⟨?_, ?_⟩
      · first | exact p0.2.1 | omega
      · refine ⟨fun q1 => ?_, fun q1 => ?_⟩
        · have : sidx (filL h) k = -1 := idxI_none2 fun j hj2 a ha => by
            rw [filL_at (by omega)] at ha
            cases ha
            exact fun z => hj j (by omega) (sp_iff.mp z)
          rw [this] at hq; exact hq
        · refine ⟨?_, ?_⟩
          · first | exact p0.2.1 | omega
          · refine ⟨?_, ?_⟩
            · omega
            · refine ⟨fun q2 => ?_, fun q2 => ?_⟩
              · refine ⟨fun q3 => ?_, fun q3 => ?_⟩
                · omega
                · omega
              · omega
    | succ n ih =>
      intro i i1 hj
      have more : ¬ (xpl h (alg h 7 i) 0 = k ∧ xpl h (alg h 7 i) 5 = 0) → xwp G m_Store_placeInSegments (d + 4) 2 [xR 5, xI k, xI (i + 1), xZ] [] h Q X := fun hn => by
        refine ih (i + 1) (by omega) (fun j hj2 => ?_)
        by_cases z : j = i
        · subst z; exact hn
        · exact hj j (by omega)
      refine v_Store_placeInSegments_2 F ?_
      refine ⟨?_, ?_⟩
      · first | exact p0.2.1 | omega | exact (p0.2.2.2.1 i (by omega) (by omega)).1
      · refine ⟨fun q1 => ?_, fun q1 => ?_⟩
        · omega
        · refine ⟨?_, ?_⟩
          · first | exact p0.2.1 | omega | exact (p0.2.2.2.1 i (by omega) (by omega)).1
          · refine ⟨?_, ?_⟩
            · first | exact p0.2.1 | omega | exact (p0.2.2.2.1 i (by omega) (by omega)).1
            · refine ⟨fun q2 => ?_, fun q2 => ?_⟩
              · refine ⟨fun q3 => ?_, fun q3 => ?_⟩
                · have : sidx (filL h) k = i := idxI_drop _ _ i (by omega) (fun j hj2 a ha => by
                    rw [filL_at (by omega)] at ha
                    cases ha
                    exact fun z => hj j hj2 (sp_iff.mp z)) _ (filL_at (by omega)) (sp_iff.mpr ⟨q2, q3⟩)
                  rw [this] at hq; exact hq
                · exact more (fun z => q3 z.2)
              · exact more (fun z => q2 z.1)
  refine v_Store_placeInSegments_0 F ?_
  exact loop (als h 7).toNat 0 (by omega) (fun j hj => absurd hj (Nat.not_lt_zero j))
theorem p_Store_sizeOf {G : XG} {d : Nat} {h : XH} {Q : XV → XH → Prop} {X : Nat → XH → Prop} {s : Int} (F : xFix h) (p0 : stok h) (hq : Q (xI (szA (szL h) s)) h) : xwp G m_Store_sizeOf (d + 1) 0 [xR 5, xI s] [] h Q X := by
  have hl := szL_len h
  have hp := p0.2.2.2.2.1
  unfold szA at hq
  refine v_Store_sizeOf_0 F ?_
  refine ⟨fun q1 => ?_, fun q1 => ?_⟩
  · rw [if_pos q1] at hq; exact hq
  · refine ⟨fun q2 => ?_, fun q2 => ?_⟩
    · rw [if_neg q1, List.getElem?_eq_none (by omega)] at hq; exact hq
    · refine ⟨fun q3 => ?_, fun q3 => ?_⟩
      · omega
      · have := szL_at (h := h) (i := s.toNat) (by omega)
        rw [if_neg q1, this, show ((s.toNat : Nat) : Int) = s by omega] at hq; exact hq
theorem szA_rng {h : XH} (p0 : stok h) (s : Int) : 0 ≤ szA (szL h) s ∧ szA (szL h) s ≤ 60 := by
  have hp := p0.2.2.2.2
  unfold szA
  split
  · decide
  · by_cases z : s < xpl h 5 4
    · have := szL_at (h := h) (i := s.toNat) (by omega)
      rw [this]
      exact hp.2.1 _ (by omega) (by omega)
    · rw [List.getElem?_eq_none (by rw [szL_len]; omega)]; decide
theorem kidx_lt {h : XH} (p0 : stok h) (k : Int) : kidx (bufL h) k < als h 6 := by
  have := (idxI_rng (fun t : Txt => decide (t.1 = k)) (bufL h)).2
  rw [bufL_len] at this
  have := p0.1.2.2.1
  unfold kidx
  omega
theorem sidx_lt {h : XH} (p0 : stok h) (k : Int) : sidx (filL h) k < als h 7 := by
  have := (idxI_rng (fun t : Txt × Bool => decide (t.1.1 = k) && !t.2) (filL h)).2
  rw [filL_len] at this
  have := p0.2.1.2.2.1
  unfold sidx
  omega
abbrev m_Store_startOf : XM := (⟨"BeaconIndex$Store", "startOf", "(I)I"⟩, prog_8_method_8_code, 4, (some .int), [])
theorem d_Store_startOf_0 : decode prog_8_method_8_code 0 = .ok (.iconst 0, 1) := by decide +kernel
theorem d_Store_startOf_1 : decode prog_8_method_8_code 1 = .ok (.istore_n 2, 1) := by decide +kernel
theorem d_Store_startOf_2 : decode prog_8_method_8_code 2 = .ok (.iconst 0, 1) := by decide +kernel
theorem d_Store_startOf_3 : decode prog_8_method_8_code 3 = .ok (.istore_n 3, 1) := by decide +kernel
theorem v_Store_startOf_0 {G : XG} {d : Nat} {h : XH} {Q : XV → XH → Prop} {X : Nat → XH → Prop} {x1 : Int} (F : xFix h) (hyp : (xwp G m_Store_startOf (d + 2) 4 [xR 5, xI x1, xI 0, xI 0] [] h Q X)) : xwp G m_Store_startOf (d + 2) 0 [xR 5, xI x1, xZ, xZ] [] h Q X := by
  have hnx9 : (93 : Int) ≤ xnx h := F.2.2
  refine xr_okL (fun hl9 => ?_)
  have r_x1 : -2147483648 ≤ x1 ∧ x1 ≤ 2147483647 := hl9 (xI x1) (.tail _ (.head _)) (Nat.le_of_ble_eq_true rfl)
  refine xr_iconst (pc := 0) (hI := d_Store_startOf_0) (hr := by decide) ?_
  refine xr_istore_n (pc := 1) (i := 2) (L9 := [xR 5, xI x1, xI 0, xZ]) (hI := d_Store_startOf_1) (hi := rfl) (hn := Nat.le_of_ble_eq_true rfl) (hL9 := rfl) ?_
  refine xr_iconst (pc := 2) (hI := d_Store_startOf_2) (hr := by decide) ?_
  refine xr_istore_n (pc := 3) (i := 3) (L9 := [xR 5, xI x1, xI 0, xI 0]) (hI := d_Store_startOf_3) (hi := rfl) (hn := Nat.le_of_ble_eq_true rfl) (hL9 := rfl) ?_
  exact hyp
theorem d_Store_startOf_4 : decode prog_8_method_8_code 4 = .ok (.iload_n 3, 1) := by decide +kernel
theorem d_Store_startOf_5 : decode prog_8_method_8_code 5 = .ok (.iload_n 1, 1) := by decide +kernel
theorem d_Store_startOf_6 : decode prog_8_method_8_code 6 = .ok (.if_icmp .ge 25, 3) := by decide +kernel
theorem d_Store_startOf_31 : decode prog_8_method_8_code 31 = .ok (.iload_n 2, 1) := by decide +kernel
theorem d_Store_startOf_32 : decode prog_8_method_8_code 32 = .ok (.ireturn, 1) := by decide +kernel
theorem d_Store_startOf_9 : decode prog_8_method_8_code 9 = .ok (.iload_n 3, 1) := by decide +kernel
theorem d_Store_startOf_10 : decode prog_8_method_8_code 10 = .ok (.aload_n 0, 1) := by decide +kernel
theorem d_Store_startOf_11 : decode prog_8_method_8_code 11 = .ok (.getfield 34, 3) := by decide +kernel
theorem d_Store_startOf_14 : decode prog_8_method_8_code 14 = .ok (.if_icmp .ge 17, 3) := by decide +kernel
theorem d_Store_startOf_17 : decode prog_8_method_8_code 17 = .ok (.iload_n 2, 1) := by decide +kernel
theorem d_Store_startOf_18 : decode prog_8_method_8_code 18 = .ok (.aload_n 0, 1) := by decide +kernel
theorem d_Store_startOf_19 : decode prog_8_method_8_code 19 = .ok (.iload_n 3, 1) := by decide +kernel
theorem d_Store_startOf_20 : decode prog_8_method_8_code 20 = .ok (.invokevirtual 66, 3) := by decide +kernel
theorem w_3 : Cond.initialized "BeaconIndex$Store" ∈ lw_tbl := List.mem_append_right _ (List.mem_of_getElem? (i := 3) (by decide +kernel))
theorem k_Store_sizeOf : xCal m_Store_sizeOf 1 := ⟨List.mem_append_right _ (List.mem_of_getElem? (i := 568) (by decide +kernel)), w_3, Nat.le_of_ble_eq_true rfl, ⟨by decide +kernel, by decide +kernel⟩, by decide +kernel, by decide +kernel, rfl⟩
theorem w_565 : Cond.methodLink "BeaconIndex$Store" 66 ⟨"BeaconIndex$Store", "sizeOf", "(I)I"⟩ ∈ lw_tbl := List.mem_append_right _ (List.mem_of_getElem? (i := 565) (by decide +kernel))
theorem w_566 : Cond.instanceMethod ⟨"BeaconIndex$Store", "sizeOf", "(I)I"⟩ ∈ lw_tbl := List.mem_append_right _ (List.mem_of_getElem? (i := 566) (by decide +kernel))
theorem w_567 : Cond.selects "BeaconIndex$Store" ⟨"BeaconIndex$Store", "sizeOf", "(I)I"⟩ ⟨"BeaconIndex$Store", "sizeOf", "(I)I"⟩ ∈ lw_tbl := List.mem_append_right _ (List.mem_of_getElem? (i := 567) (by decide +kernel))
theorem d_Store_startOf_23 : decode prog_8_method_8_code 23 = .ok (.iadd, 1) := by decide +kernel
theorem d_Store_startOf_24 : decode prog_8_method_8_code 24 = .ok (.istore_n 2, 1) := by decide +kernel
theorem d_Store_startOf_25 : decode prog_8_method_8_code 25 = .ok (.iinc 3 1, 3) := by decide +kernel
theorem d_Store_startOf_28 : decode prog_8_method_8_code 28 = .ok (.goto (-24), 3) := by decide +kernel
theorem v_Store_startOf_4 {G : XG} {d : Nat} {h : XH} {Q : XV → XH → Prop} {X : Nat → XH → Prop} {x1 x2 x3 : Int} (F : xFix h) (hyp : ((x1 ≤ x3 → (Q (xI x2) h)) ∧ (¬ x1 ≤ x3 → (((xpl h 5 4) ≤ x3 → (Q (xI x2) h)) ∧ (¬ (xpl h 5 4) ≤ x3 → stok h ∧ xiR (x2 + (szA (szL h) x3)) ∧ (xwp G m_Store_startOf (d + 2) 4 [xR 5, xI x1, xI (x2 + (szA (szL h) x3)), xI (x3 + 1)] [] h Q X)))))) : xwp G m_Store_startOf (d + 2) 4 [xR 5, xI x1, xI x2, xI x3] [] h Q X := by
  have hnx9 : (93 : Int) ≤ xnx h := F.2.2
  refine xr_okL (fun hl9 => ?_)
  have r_x1 : -2147483648 ≤ x1 ∧ x1 ≤ 2147483647 := hl9 (xI x1) (.tail _ (.head _)) (Nat.le_of_ble_eq_true rfl)
  have r_x2 : -2147483648 ≤ x2 ∧ x2 ≤ 2147483647 := hl9 (xI x2) (.tail _ (.tail _ (.head _))) (Nat.le_of_ble_eq_true rfl)
  have r_x3 : -2147483648 ≤ x3 ∧ x3 ≤ 2147483647 := hl9 (xI x3) (.tail _ (.tail _ (.tail _ (.head _)))) (Nat.le_of_ble_eq_true rfl)
  refine xr_iload_n (pc := 4) (i := 3) (hI := d_Store_startOf_4) (hi := rfl) (hl := rfl) ?_
  refine xr_iload_n (pc := 5) (i := 1) (hI := d_Store_startOf_5) (hi := rfl) (hl := rfl) ?_
  refine xr_icmp_ge (pc := 6) (tgt := 31) (hI := d_Store_startOf_6) (ht := by decide) (fun q9 => ?_) (fun q9 => ?_)
  · replace hyp := hyp.1 q9
    have q1_ := q9
    clear q9
    refine xr_iload_n (pc := 31) (i := 2) (hI := d_Store_startOf_31) (hi := rfl) (hl := rfl) ?_
    refine xr_ireturn (S := []) (pc := 32) (hI := d_Store_startOf_32) (hr := rfl) ?_
    exact hyp
  · replace hyp := hyp.2 q9
    have q1_ := q9
    clear q9
    refine xr_iload_n (pc := 9) (i := 3) (hI := d_Store_startOf_9) (hi := rfl) (hl := rfl) ?_
    refine xr_aload_n (pc := 10) (i := 0) (hI := d_Store_startOf_10) (hi := rfl) (hl := rfl) ?_
    refine xg_getf (pc := 11) (ci := 7) (k := 4) (N := 6) (v9 := 0) (v := (xpl h 5 4)) (T := xF7) (hI := d_Store_startOf_11) (hw := w_154) rfl xi7 (Or.inl rfl) (Nat.le_of_ble_eq_true rfl) (Nat.le_of_ble_eq_true rfl) rfl (ft_5 F) rfl (fun f2_ => ?_)
    replace f2_ : -2147483648 ≤ (xpl h 5 4) ∧ (xpl h 5 4) ≤ 2147483647 := f2_
    refine xr_icmp_ge (pc := 14) (tgt := 31) (hI := d_Store_startOf_14) (ht := by decide) (fun q9 => ?_) (fun q9 => ?_)
    · replace hyp := hyp.1 q9
      have q3_ := q9
      clear q9
      refine xr_iload_n (pc := 31) (i := 2) (hI := d_Store_startOf_31) (hi := rfl) (hl := rfl) ?_
      refine xr_ireturn (S := []) (pc := 32) (hI := d_Store_startOf_32) (hr := rfl) ?_
      exact hyp
    · replace hyp := hyp.2 q9
      have q3_ := q9
      clear q9
      refine xr_iload_n (pc := 17) (i := 2) (hI := d_Store_startOf_17) (hi := rfl) (hl := rfl) ?_
      refine xr_aload_n (pc := 18) (i := 0) (hI := d_Store_startOf_18) (hi := rfl) (hl := rfl) ?_
      refine xr_iload_n (pc := 19) (i := 3) (hI := d_Store_startOf_19) (hi := rfl) (hl := rfl) ?_
      obtain ⟨c4_, hyp⟩ := hyp
      refine xq_callV (pc := 20) (index := 66) (K := m_Store_sizeOf) (As := [xI x3]) (S := [xI x2]) (L0 := [xR 5, xI x3]) (hI := d_Store_startOf_20) (hK := k_Store_sizeOf) (hlk := w_565) (hnoM := rfl) (hS8 := Nat.le_of_ble_eq_true rfl) (ci := 7) (N := 6) (C := "BeaconIndex$Store") (T := xF7) (hc := rfl) (hci := Nat.le_of_ble_eq_true rfl) (htb := (ft_5 F)) (hinst := w_566) (hsel := w_567) (hlen := Nat.le_of_ble_eq_true rfl) (hst := rfl) (hL0 := rfl)  (p_Store_sizeOf F c4_ ?_)
      show xwp G m_Store_startOf (d + 2) 23 [xR 5, xI x1, xI x2, xI x3] [xI (szA (szL h) x3), xI x2] _ _ _
      have f5_ : 0 ≤ (szA (szL h) x3) ∧ (szA (szL h) x3) ≤ 60 := szA_rng c4_ _
      obtain ⟨c9, hyp⟩ := hyp
      refine xr_iadd (pc := 23) (hI := d_Store_startOf_23) (hr := c9) ?_
      refine xr_istore_n (pc := 24) (i := 2) (L9 := [xR 5, xI x1, xI (x2 + (szA (szL h) x3)), xI x3]) (hI := d_Store_startOf_24) (hi := rfl) (hn := Nat.le_of_ble_eq_true rfl) (hL9 := rfl) ?_
      refine xr_iinc (pc := 25) (i := 3) (L9 := [xR 5, xI x1, xI (x2 + (szA (szL h) x3)), xI (x3 + 1)]) (hI := d_Store_startOf_25) (hl := rfl) (hn := Nat.le_of_ble_eq_true rfl) (hr := ⟨by clear hyp; omega, by clear hyp; omega⟩) (hL9 := rfl) ?_
      refine xr_goto (pc := 28) (tgt := 4) (hI := d_Store_startOf_28) (ht := by decide) ?_
      exact hyp
abbrev m_Store_segmentAround : XM := (⟨"BeaconIndex$Store", "segmentAround", "(I)I"⟩, prog_8_method_9_code, 4, (some .int), [])
theorem d_Store_segmentAround_0 : decode prog_8_method_9_code 0 = .ok (.iconst 0, 1) := by decide +kernel
theorem d_Store_segmentAround_1 : decode prog_8_method_9_code 1 = .ok (.istore_n 2, 1) := by decide +kernel
theorem d_Store_segmentAround_2 : decode prog_8_method_9_code 2 = .ok (.aload_n 0, 1) := by decide +kernel
theorem d_Store_segmentAround_3 : decode prog_8_method_9_code 3 = .ok (.iload_n 2, 1) := by decide +kernel
theorem d_Store_segmentAround_4 : decode prog_8_method_9_code 4 = .ok (.invokevirtual 66, 3) := by decide +kernel
theorem d_Store_segmentAround_7 : decode prog_8_method_9_code 7 = .ok (.istore_n 3, 1) := by decide +kernel
theorem v_Store_segmentAround_0 {G : XG} {d : Nat} {h : XH} {Q : XV → XH → Prop} {X : Nat → XH → Prop} {x1 : Int} (F : xFix h) (hyp : stok h ∧ (xwp G m_Store_segmentAround (d + 2) 8 [xR 5, xI x1, xI 0, xI (szA (szL h) 0)] [] h Q X)) : xwp G m_Store_segmentAround (d + 2) 0 [xR 5, xI x1, xZ, xZ] [] h Q X := by
  have hnx9 : (93 : Int) ≤ xnx h := F.2.2
  refine xr_okL (fun hl9 => ?_)
  have r_x1 : -2147483648 ≤ x1 ∧ x1 ≤ 2147483647 := hl9 (xI x1) (.tail _ (.head _)) (Nat.le_of_ble_eq_true rfl)
  refine xr_iconst (pc := 0) (hI := d_Store_segmentAround_0) (hr := by decide) ?_
  refine xr_istore_n (pc := 1) (i := 2) (L9 := [xR 5, xI x1, xI 0, xZ]) (hI := d_Store_segmentAround_1) (hi := rfl) (hn := Nat.le_of_ble_eq_true rfl) (hL9 := rfl) ?_
  refine xr_aload_n (pc := 2) (i := 0) (hI := d_Store_segmentAround_2) (hi := rfl) (hl := rfl) ?_
  refine xr_iload_n (pc := 3) (i := 2) (hI := d_Store_segmentAround_3) (hi := rfl) (hl := rfl) ?_
  obtain ⟨c1_, hyp⟩ := hyp
  refine xq_callV (pc := 4) (index := 66) (K := m_Store_sizeOf) (As := [xI 0]) (S := []) (L0 := [xR 5, xI 0]) (hI := d_Store_segmentAround_4) (hK := k_Store_sizeOf) (hlk := w_565) (hnoM := rfl) (hS8 := Nat.le_of_ble_eq_true rfl) (ci := 7) (N := 6) (C := "BeaconIndex$Store") (T := xF7) (hc := rfl) (hci := Nat.le_of_ble_eq_true rfl) (htb := (ft_5 F)) (hinst := w_566) (hsel := w_567) (hlen := Nat.le_of_ble_eq_true rfl) (hst := rfl) (hL0 := rfl)  (p_Store_sizeOf F c1_ ?_)
  show xwp G m_Store_segmentAround (d + 2) 7 [xR 5, xI x1, xI 0, xZ] [xI (szA (szL h) 0)] _ _ _
  have f2_ : 0 ≤ (szA (szL h) 0) ∧ (szA (szL h) 0) ≤ 60 := szA_rng c1_ _
  refine xr_istore_n (pc := 7) (i := 3) (L9 := [xR 5, xI x1, xI 0, xI (szA (szL h) 0)]) (hI := d_Store_segmentAround_7) (hi := rfl) (hn := Nat.le_of_ble_eq_true rfl) (hL9 := rfl) ?_
  exact hyp
theorem d_Store_segmentAround_8 : decode prog_8_method_9_code 8 = .ok (.iload_n 2, 1) := by decide +kernel
theorem d_Store_segmentAround_9 : decode prog_8_method_9_code 9 = .ok (.aload_n 0, 1) := by decide +kernel
theorem d_Store_segmentAround_10 : decode prog_8_method_9_code 10 = .ok (.getfield 34, 3) := by decide +kernel
theorem d_Store_segmentAround_13 : decode prog_8_method_9_code 13 = .ok (.if_icmp .ge 22, 3) := by decide +kernel
theorem d_Store_segmentAround_35 : decode prog_8_method_9_code 35 = .ok (.iload_n 2, 1) := by decide +kernel
theorem d_Store_segmentAround_36 : decode prog_8_method_9_code 36 = .ok (.ireturn, 1) := by decide +kernel
theorem d_Store_segmentAround_16 : decode prog_8_method_9_code 16 = .ok (.iload_n 3, 1) := by decide +kernel
theorem d_Store_segmentAround_17 : decode prog_8_method_9_code 17 = .ok (.iload_n 1, 1) := by decide +kernel
theorem d_Store_segmentAround_18 : decode prog_8_method_9_code 18 = .ok (.if_icmp .gt 17, 3) := by decide +kernel
theorem d_Store_segmentAround_21 : decode prog_8_method_9_code 21 = .ok (.iinc 2 1, 3) := by decide +kernel
theorem d_Store_segmentAround_24 : decode prog_8_method_9_code 24 = .ok (.iload_n 3, 1) := by decide +kernel
theorem d_Store_segmentAround_25 : decode prog_8_method_9_code 25 = .ok (.aload_n 0, 1) := by decide +kernel
theorem d_Store_segmentAround_26 : decode prog_8_method_9_code 26 = .ok (.iload_n 2, 1) := by decide +kernel
theorem d_Store_segmentAround_27 : decode prog_8_method_9_code 27 = .ok (.invokevirtual 66, 3) := by decide +kernel
theorem d_Store_segmentAround_30 : decode prog_8_method_9_code 30 = .ok (.iadd, 1) := by decide +kernel
theorem d_Store_segmentAround_31 : decode prog_8_method_9_code 31 = .ok (.istore_n 3, 1) := by decide +kernel
theorem d_Store_segmentAround_32 : decode prog_8_method_9_code 32 = .ok (.goto (-24), 3) := by decide +kernel
theorem v_Store_segmentAround_8 {G : XG} {d : Nat} {h : XH} {Q : XV → XH → Prop} {X : Nat → XH → Prop} {x1 x2 x3 : Int} (F : xFix h) (hyp : (((xpl h 5 4) ≤ x2 → (Q (xI x2) h)) ∧ (¬ (xpl h 5 4) ≤ x2 → ((x1 < x3 → (Q (xI x2) h)) ∧ (¬ x1 < x3 → stok h ∧ xiR (x3 + (szA (szL h) (x2 + 1))) ∧ (xwp G m_Store_segmentAround (d + 2) 8 [xR 5, xI x1, xI (x2 + 1), xI (x3 + (szA (szL h) (x2 + 1)))] [] h Q X)))))) : xwp G m_Store_segmentAround (d + 2) 8 [xR 5, xI x1, xI x2, xI x3] [] h Q X := by
  have hnx9 : (93 : Int) ≤ xnx h := F.2.2
  refine xr_okL (fun hl9 => ?_)
  have r_x1 : -2147483648 ≤ x1 ∧ x1 ≤ 2147483647 := hl9 (xI x1) (.tail _ (.head _)) (Nat.le_of_ble_eq_true rfl)
  have r_x2 : -2147483648 ≤ x2 ∧ x2 ≤ 2147483647 := hl9 (xI x2) (.tail _ (.tail _ (.head _))) (Nat.le_of_ble_eq_true rfl)
  have r_x3 : -2147483648 ≤ x3 ∧ x3 ≤ 2147483647 := hl9 (xI x3) (.tail _ (.tail _ (.tail _ (.head _)))) (Nat.le_of_ble_eq_true rfl)
  refine xr_iload_n (pc := 8) (i := 2) (hI := d_Store_segmentAround_8) (hi := rfl) (hl := rfl) ?_
  refine xr_aload_n (pc := 9) (i := 0) (hI := d_Store_segmentAround_9) (hi := rfl) (hl := rfl) ?_
  refine xg_getf (pc := 10) (ci := 7) (k := 4) (N := 6) (v9 := 0) (v := (xpl h 5 4)) (T := xF7) (hI := d_Store_segmentAround_10) (hw := w_154) rfl xi7 (Or.inl rfl) (Nat.le_of_ble_eq_true rfl) (Nat.le_of_ble_eq_true rfl) rfl (ft_5 F) rfl (fun f1_ => ?_)
  replace f1_ : -2147483648 ≤ (xpl h 5 4) ∧ (xpl h 5 4) ≤ 2147483647 := f1_
  refine xr_icmp_ge (pc := 13) (tgt := 35) (hI := d_Store_segmentAround_13) (ht := by decide) (fun q9 => ?_) (fun q9 => ?_)
  · replace hyp := hyp.1 q9
    have q2_ := q9
    clear q9
    refine xr_iload_n (pc := 35) (i := 2) (hI := d_Store_segmentAround_35) (hi := rfl) (hl := rfl) ?_
    refine xr_ireturn (S := []) (pc := 36) (hI := d_Store_segmentAround_36) (hr := rfl) ?_
    exact hyp
  · replace hyp := hyp.2 q9
    have q2_ := q9
    clear q9
    refine xr_iload_n (pc := 16) (i := 3) (hI := d_Store_segmentAround_16) (hi := rfl) (hl := rfl) ?_
    refine xr_iload_n (pc := 17) (i := 1) (hI := d_Store_segmentAround_17) (hi := rfl) (hl := rfl) ?_
    refine xr_icmp_gt (pc := 18) (tgt := 35) (hI := d_Store_segmentAround_18) (ht := by decide) (fun q9 => ?_) (fun q9 => ?_)
    · replace hyp := hyp.1 q9
      have q3_ := q9
      clear q9
      refine xr_iload_n (pc := 35) (i := 2) (hI := d_Store_segmentAround_35) (hi := rfl) (hl := rfl) ?_
      refine xr_ireturn (S := []) (pc := 36) (hI := d_Store_segmentAround_36) (hr := rfl) ?_
      exact hyp
    · replace hyp := hyp.2 q9
      have q3_ := q9
      clear q9
      refine xr_iinc (pc := 21) (i := 2) (L9 := [xR 5, xI x1, xI (x2 + 1), xI x3]) (hI := d_Store_segmentAround_21) (hl := rfl) (hn := Nat.le_of_ble_eq_true rfl) (hr := ⟨by clear hyp; omega, by clear hyp; omega⟩) (hL9 := rfl) ?_
      refine xr_iload_n (pc := 24) (i := 3) (hI := d_Store_segmentAround_24) (hi := rfl) (hl := rfl) ?_
      refine xr_aload_n (pc := 25) (i := 0) (hI := d_Store_segmentAround_25) (hi := rfl) (hl := rfl) ?_
      refine xr_iload_n (pc := 26) (i := 2) (hI := d_Store_segmentAround_26) (hi := rfl) (hl := rfl) ?_
      obtain ⟨c4_, hyp⟩ := hyp
      refine xq_callV (pc := 27) (index := 66) (K := m_Store_sizeOf) (As := [xI (x2 + 1)]) (S := [xI x3]) (L0 := [xR 5, xI (x2 + 1)]) (hI := d_Store_segmentAround_27) (hK := k_Store_sizeOf) (hlk := w_565) (hnoM := rfl) (hS8 := Nat.le_of_ble_eq_true rfl) (ci := 7) (N := 6) (C := "BeaconIndex$Store") (T := xF7) (hc := rfl) (hci := Nat.le_of_ble_eq_true rfl) (htb := (ft_5 F)) (hinst := w_566) (hsel := w_567) (hlen := Nat.le_of_ble_eq_true rfl) (hst := rfl) (hL0 := rfl)  (p_Store_sizeOf F c4_ ?_)
      show xwp G m_Store_segmentAround (d + 2) 30 [xR 5, xI x1, xI (x2 + 1), xI x3] [xI (szA (szL h) (x2 + 1)), xI x3] _ _ _
      have f5_ : 0 ≤ (szA (szL h) (x2 + 1)) ∧ (szA (szL h) (x2 + 1)) ≤ 60 := szA_rng c4_ _
      obtain ⟨c9, hyp⟩ := hyp
      refine xr_iadd (pc := 30) (hI := d_Store_segmentAround_30) (hr := c9) ?_
      refine xr_istore_n (pc := 31) (i := 3) (L9 := [xR 5, xI x1, xI (x2 + 1), xI (x3 + (szA (szL h) (x2 + 1)))]) (hI := d_Store_segmentAround_31) (hi := rfl) (hn := Nat.le_of_ble_eq_true rfl) (hL9 := rfl) ?_
      refine xr_goto (pc := 32) (tgt := 8) (hI := d_Store_segmentAround_32) (ht := by decide) ?_
      exact hyp
abbrev m_Store_levelAt : XM := (⟨"BeaconIndex$Store", "levelAt", "(I)I"⟩, prog_8_method_12_code, 3, (some .int), [])
theorem d_Store_levelAt_0 : decode prog_8_method_12_code 0 = .ok (.aload_n 0, 1) := by decide +kernel
theorem d_Store_levelAt_1 : decode prog_8_method_12_code 1 = .ok (.iload_n 1, 1) := by decide +kernel
theorem d_Store_levelAt_2 : decode prog_8_method_12_code 2 = .ok (.invokevirtual 66, 3) := by decide +kernel
theorem d_Store_levelAt_5 : decode prog_8_method_12_code 5 = .ok (.istore_n 2, 1) := by decide +kernel
theorem d_Store_levelAt_6 : decode prog_8_method_12_code 6 = .ok (.iload_n 2, 1) := by decide +kernel
theorem d_Store_levelAt_7 : decode prog_8_method_12_code 7 = .ok (.iconst 3, 1) := by decide +kernel
theorem d_Store_levelAt_8 : decode prog_8_method_12_code 8 = .ok (.if_icmp .gt 5, 3) := by decide +kernel
theorem d_Store_levelAt_13 : decode prog_8_method_12_code 13 = .ok (.iload_n 2, 1) := by decide +kernel
theorem d_Store_levelAt_14 : decode prog_8_method_12_code 14 = .ok (.bipush 12, 2) := by decide +kernel
theorem d_Store_levelAt_16 : decode prog_8_method_12_code 16 = .ok (.if_icmp .gt 5, 3) := by decide +kernel
theorem d_Store_levelAt_21 : decode prog_8_method_12_code 21 = .ok (.iload_n 2, 1) := by decide +kernel
theorem d_Store_levelAt_22 : decode prog_8_method_12_code 22 = .ok (.bipush 39, 2) := by decide +kernel
theorem d_Store_levelAt_24 : decode prog_8_method_12_code 24 = .ok (.if_icmp .gt 7, 3) := by decide +kernel
theorem d_Store_levelAt_31 : decode prog_8_method_12_code 31 = .ok (.iconst 3, 1) := by decide +kernel
theorem d_Store_levelAt_32 : decode prog_8_method_12_code 32 = .ok (.ireturn, 1) := by decide +kernel
theorem d_Store_levelAt_27 : decode prog_8_method_12_code 27 = .ok (.iconst 2, 1) := by decide +kernel
theorem d_Store_levelAt_28 : decode prog_8_method_12_code 28 = .ok (.goto 4, 3) := by decide +kernel
theorem d_Store_levelAt_19 : decode prog_8_method_12_code 19 = .ok (.iconst 1, 1) := by decide +kernel
theorem d_Store_levelAt_20 : decode prog_8_method_12_code 20 = .ok (.ireturn, 1) := by decide +kernel
theorem d_Store_levelAt_11 : decode prog_8_method_12_code 11 = .ok (.iconst 0, 1) := by decide +kernel
theorem d_Store_levelAt_12 : decode prog_8_method_12_code 12 = .ok (.ireturn, 1) := by decide +kernel
theorem v_Store_levelAt_0 {G : XG} {d : Nat} {h : XH} {Q : XV → XH → Prop} {X : Nat → XH → Prop} {x1 : Int} (F : xFix h) (hyp : stok h ∧ (((3 : Int) < (szA (szL h) x1) → (((12 : Int) < (szA (szL h) x1) → (((39 : Int) < (szA (szL h) x1) → (Q (xI 3) h)) ∧ (¬ (39 : Int) < (szA (szL h) x1) → (Q (xI 2) h)))) ∧ (¬ (12 : Int) < (szA (szL h) x1) → (Q (xI 1) h)))) ∧ (¬ (3 : Int) < (szA (szL h) x1) → (Q (xI 0) h)))) : xwp G m_Store_levelAt (d + 2) 0 [xR 5, xI x1, xZ] [] h Q X := by
  have hnx9 : (93 : Int) ≤ xnx h := F.2.2
  refine xr_okL (fun hl9 => ?_)
  have r_x1 : -2147483648 ≤ x1 ∧ x1 ≤ 2147483647 := hl9 (xI x1) (.tail _ (.head _)) (Nat.le_of_ble_eq_true rfl)
  refine xr_aload_n (pc := 0) (i := 0) (hI := d_Store_levelAt_0) (hi := rfl) (hl := rfl) ?_
  refine xr_iload_n (pc := 1) (i := 1) (hI := d_Store_levelAt_1) (hi := rfl) (hl := rfl) ?_
  obtain ⟨c1_, hyp⟩ := hyp
  refine xq_callV (pc := 2) (index := 66) (K := m_Store_sizeOf) (As := [xI x1]) (S := []) (L0 := [xR 5, xI x1]) (hI := d_Store_levelAt_2) (hK := k_Store_sizeOf) (hlk := w_565) (hnoM := rfl) (hS8 := Nat.le_of_ble_eq_true rfl) (ci := 7) (N := 6) (C := "BeaconIndex$Store") (T := xF7) (hc := rfl) (hci := Nat.le_of_ble_eq_true rfl) (htb := (ft_5 F)) (hinst := w_566) (hsel := w_567) (hlen := Nat.le_of_ble_eq_true rfl) (hst := rfl) (hL0 := rfl)  (p_Store_sizeOf F c1_ ?_)
  show xwp G m_Store_levelAt (d + 2) 5 [xR 5, xI x1, xZ] [xI (szA (szL h) x1)] _ _ _
  have f2_ : 0 ≤ (szA (szL h) x1) ∧ (szA (szL h) x1) ≤ 60 := szA_rng c1_ _
  refine xr_istore_n (pc := 5) (i := 2) (L9 := [xR 5, xI x1, xI (szA (szL h) x1)]) (hI := d_Store_levelAt_5) (hi := rfl) (hn := Nat.le_of_ble_eq_true rfl) (hL9 := rfl) ?_
  refine xr_iload_n (pc := 6) (i := 2) (hI := d_Store_levelAt_6) (hi := rfl) (hl := rfl) ?_
  refine xr_iconst (pc := 7) (hI := d_Store_levelAt_7) (hr := by decide) ?_
  refine xr_icmp_gt (pc := 8) (tgt := 13) (hI := d_Store_levelAt_8) (ht := by decide) (fun q9 => ?_) (fun q9 => ?_)
  · replace hyp := hyp.1 q9
    have q3_ := q9
    clear q9
    refine xr_iload_n (pc := 13) (i := 2) (hI := d_Store_levelAt_13) (hi := rfl) (hl := rfl) ?_
    refine xr_bipush (pc := 14) (hI := d_Store_levelAt_14) (hr := by decide) (hv := by decide) ?_
    refine xr_icmp_gt (pc := 16) (tgt := 21) (hI := d_Store_levelAt_16) (ht := by decide) (fun q9 => ?_) (fun q9 => ?_)
    · replace hyp := hyp.1 q9
      have q4_ := q9
      clear q9
      refine xr_iload_n (pc := 21) (i := 2) (hI := d_Store_levelAt_21) (hi := rfl) (hl := rfl) ?_
      refine xr_bipush (pc := 22) (hI := d_Store_levelAt_22) (hr := by decide) (hv := by decide) ?_
      refine xr_icmp_gt (pc := 24) (tgt := 31) (hI := d_Store_levelAt_24) (ht := by decide) (fun q9 => ?_) (fun q9 => ?_)
      · replace hyp := hyp.1 q9
        have q5_ := q9
        clear q9
        refine xr_iconst (pc := 31) (hI := d_Store_levelAt_31) (hr := by decide) ?_
        refine xr_ireturn (S := []) (pc := 32) (hI := d_Store_levelAt_32) (hr := rfl) ?_
        exact hyp
      · replace hyp := hyp.2 q9
        have q5_ := q9
        clear q9
        refine xr_iconst (pc := 27) (hI := d_Store_levelAt_27) (hr := by decide) ?_
        refine xr_goto (pc := 28) (tgt := 32) (hI := d_Store_levelAt_28) (ht := by decide) ?_
        refine xr_ireturn (S := []) (pc := 32) (hI := d_Store_levelAt_32) (hr := rfl) ?_
        exact hyp
    · replace hyp := hyp.2 q9
      have q4_ := q9
      clear q9
      refine xr_iconst (pc := 19) (hI := d_Store_levelAt_19) (hr := by decide) ?_
      refine xr_ireturn (S := []) (pc := 20) (hI := d_Store_levelAt_20) (hr := rfl) ?_
      exact hyp
  · replace hyp := hyp.2 q9
    have q3_ := q9
    clear q9
    refine xr_iconst (pc := 11) (hI := d_Store_levelAt_11) (hr := by decide) ?_
    refine xr_ireturn (S := []) (pc := 12) (hI := d_Store_levelAt_12) (hr := rfl) ?_
    exact hyp
/-- where a segment begins -/
def stA (l : List Int) (s : Int) : Int := (l.take s.toNat).sum
theorem take_succ_sum (l : List Int) (k : Nat) (hk : k < l.length) : (l.take (k + 1)).sum = (l.take k).sum + (l[k]?).getD 0 := by
  rw [List.take_succ, List.sum_append]
  rw [List.getElem?_eq_getElem hk]
  simp
theorem sum_take_le {l : List Int} (h : ∀ x ∈ l, 0 ≤ x ∧ x ≤ 60) : ∀ k : Nat, 0 ≤ (l.take k).sum ∧ (l.take k).sum ≤ 60 * k
  | 0 => by simp
  | k + 1 => by
    have ih := sum_take_le h k
    by_cases hk : k < l.length
    · rw [take_succ_sum l k hk]
      have := h (l[k]) (List.getElem_mem hk)
      rw [List.getElem?_eq_getElem hk, Option.getD_some]
      omega
    · rw [List.take_of_length_le (by omega)]
      rw [List.take_of_length_le (by omega)] at ih
      omega
theorem szL_mem {h : XH} (p0 : stok h) : ∀ x ∈ szL h, 0 ≤ x ∧ x ≤ 60 := by
  intro x hx
  obtain ⟨i, hi⟩ := List.getElem?_of_mem hx
  have hl := (List.getElem?_eq_some_iff.mp hi).1
  rw [szL_len] at hl
  have hp := p0.2.2.2.2
  rw [szL_at (by omega)] at hi
  cases hi
  exact hp.2.1 _ (by omega) (by omega)
theorem stA_rng {h : XH} (p0 : stok h) (s : Int) : 0 ≤ stA (szL h) s ∧ stA (szL h) s ≤ 3600 := by
  have h1 := sum_take_le (szL_mem p0) s.toNat
  have h2 := sum_take_le (szL_mem p0) 60
  have hp := p0.2.2.2.2.1
  unfold stA
  by_cases z : s.toNat ≤ 60
  · omega
  · rw [List.take_of_length_le (by rw [szL_len]; omega)] at h1 ⊢
    rw [List.take_of_length_le (by rw [szL_len]; omega)] at h2
    omega
theorem p_Store_startOf {G : XG} {d : Nat} {h : XH} {Q : XV → XH → Prop} {X : Nat → XH → Prop} {s : Int} (F : xFix h) (p0 : stok h) (hq : Q (xI (stA (szL h) s)) h) : xwp G m_Store_startOf (d + 2) 0 [xR 5, xI s, xZ, xZ] [] h Q X := by
  have hl := szL_len h
  have hp := p0.2.2.2.2.1
  have loop : ∀ (n k : Nat), k + n = min s.toNat (xpl h 5 4).toNat → xwp G m_Store_startOf (d + 2) 4 [xR 5, xI s, xI ((szL h).take k).sum, xI k] [] h Q X := by
    intro n
    induction n with
    | zero =>
      intro k k1
      have e : stA (szL h) s = ((szL h).take k).sum := by
        unfold stA
        by_cases z : s.toNat ≤ (xpl h 5 4).toNat
        · rw [show k = s.toNat by omega]
        · rw [List.take_of_length_le (by omega), List.take_of_length_le (by omega)]
      rw [e] at hq
      refine v_Store_startOf_4 F ?_
      refine ⟨fun q1 => ?_, fun q1 => ?_⟩
      · exact hq
      · refine ⟨fun q2 => ?_, fun q2 => ?_⟩
        · exact hq
        · refine ⟨?_, ?_⟩
          · first | exact p0 | (have := sum_take_le (szL_mem p0) k; have := szA_rng p0 (k : Int); exact ⟨by omega, by omega⟩)
          · refine ⟨?_, ?_⟩
            · first | exact p0 | (have := sum_take_le (szL_mem p0) k; have := szA_rng p0 (k : Int); exact ⟨by omega, by omega⟩)
            · omega
    | succ n ih =>
      intro k k1
      have h1 := sum_take_le (szL_mem p0) k
      have h2 := szA_rng p0 (k : Int)
      refine v_Store_startOf_4 F ?_
      refine ⟨fun q1 => ?_, fun q1 => ?_⟩
      · omega
      · refine ⟨fun q2 => ?_, fun q2 => ?_⟩
        · omega
        · refine ⟨?_, ?_⟩
          · first | exact p0 | exact ⟨by omega, by omega⟩
          · refine ⟨?_, ?_⟩
            · first | exact p0 | exact ⟨by omega, by omega⟩
            · have := ih (k + 1) (by omega)
              rw [take_succ_sum _ k (by omega)] at this
              have e : szA (szL h) (k : Int) = ((szL h)[k]?).getD 0 := by unfold szA; rw [if_neg (by omega)]; rfl
              rw [e]
              exact this
  refine v_Store_startOf_0 F ?_
  exact loop (min s.toNat (xpl h 5 4).toNat) 0 (by omega)
/-- the segment round a place -/
def sgF (l : List Int) (place : Int) : Nat → Int → Int → Int
  | 0, s, _ => s
  | n + 1, s, b => if place < b then s else sgF l place n (s + 1) (b + szA l (s + 1))
def sgA (l : List Int) (place : Int) : Int := sgF l place l.length 0 (szA l 0)
theorem p_Store_segmentAround {G : XG} {d : Nat} {h : XH} {Q : XV → XH → Prop} {X : Nat → XH → Prop} {p : Int} (F : xFix h) (p0 : stok h) (hq : Q (xI (sgA (szL h) p)) h) : xwp G m_Store_segmentAround (d + 2) 0 [xR 5, xI p, xZ, xZ] [] h Q X := by
  have hl := szL_len h
  have hp := p0.2.2.2.2.1
  have loop : ∀ (n : Nat) (s b : Int), 0 ≤ s → s + n = xpl h 5 4 → 0 ≤ b → b ≤ 60 * (s + 1) → Q (xI (sgF (szL h) p n s b)) h → xwp G m_Store_segmentAround (d + 2) 8 [xR 5, xI p, xI s, xI b] [] h Q X := by
    intro n
    induction n with
    | zero =>
      intro s b s0 s1 b0 b1 hq
      have h2 := szA_rng p0 (s + 1)
      refine v_Store_segmentAround_8 F ?_
      refine ⟨fun q1 => ?_, fun q1 => ?_⟩
      · exact hq
      · refine ⟨fun q2 => ?_, fun q2 => ?_⟩
        · omega
        · refine ⟨?_, ?_⟩
          · first | exact p0 | exact ⟨by omega, by omega⟩
          · refine ⟨?_, ?_⟩
            · first | exact p0 | exact ⟨by omega, by omega⟩
            · omega
    | succ n ih =>
      intro s b s0 s1 b0 b1 hq
      have h2 := szA_rng p0 (s + 1)
      unfold sgF at hq
      refine v_Store_segmentAround_8 F ?_
      refine ⟨fun q1 => ?_, fun q1 => ?_⟩
      · omega
      · refine ⟨fun q2 => ?_, fun q2 => ?_⟩
        · rw [if_pos q2] at hq; exact hq
        · refine ⟨?_, ?_⟩
          · first | exact p0 | exact ⟨by omega, by omega⟩
          · refine ⟨?_, ?_⟩
            · first | exact p0 | exact ⟨by omega, by omega⟩
            · rw [if_neg q2] at hq; exact ih _ _ (by omega) (by omega) (by omega) (by omega) hq
  have h2 := szA_rng p0 0
  refine v_Store_segmentAround_0 F ?_
  refine ⟨?_, ?_⟩
  · exact p0
  · unfold sgA at hq
    exact loop (szL h).length 0 _ (by decide) (by omega) (by omega) (by omega) hq
def lvl (n : Int) : Int := if n ≤ 3 then 0 else if n ≤ 12 then 1 else if n ≤ 39 then 2 else 3
theorem p_Store_levelAt {G : XG} {d : Nat} {h : XH} {Q : XV → XH → Prop} {X : Nat → XH → Prop} {s : Int} (F : xFix h) (p0 : stok h) (hq : Q (xI (lvl (szA (szL h) s))) h) : xwp G m_Store_levelAt (d + 2) 0 [xR 5, xI s, xZ] [] h Q X := by
  unfold lvl at hq
  refine v_Store_levelAt_0 F ?_
  refine ⟨?_, ?_⟩
  · exact p0
  · refine ⟨fun q1 => ?_, fun q1 => ?_⟩
    · refine ⟨fun q2 => ?_, fun q2 => ?_⟩
      · refine ⟨fun q3 => ?_, fun q3 => ?_⟩
        · rw [if_neg (by omega), if_neg (by omega), if_neg (by omega)] at hq; exact hq
        · rw [if_neg (by omega), if_neg (by omega), if_pos (by omega)] at hq; exact hq
      · rw [if_neg (by omega), if_pos (by omega)] at hq; exact hq
    · rw [if_pos (by omega)] at hq; exact hq
theorem lvl_rng (n : Int) : 0 ≤ lvl n ∧ lvl n ≤ 3 := by unfold lvl; split <;> (try split) <;> (try split) <;> omega
abbrev m_Store_textOf : XM := (⟨"BeaconIndex$Store", "textOf", "(II)LBeaconIndex$Text;"⟩, prog_8_method_10_code, 3, (some (.object "BeaconIndex$Text")), [])
theorem d_Store_textOf_0 : decode prog_8_method_10_code 0 = .ok (.aload_n 0, 1) := by decide +kernel
theorem d_Store_textOf_1 : decode prog_8_method_10_code 1 = .ok (.aload_n 0, 1) := by decide +kernel
theorem d_Store_textOf_2 : decode prog_8_method_10_code 2 = .ok (.iload_n 1, 1) := by decide +kernel
theorem d_Store_textOf_3 : decode prog_8_method_10_code 3 = .ok (.invokevirtual 69, 3) := by decide +kernel
theorem k_Store_startOf : xCal m_Store_startOf 1 := ⟨List.mem_append_right _ (List.mem_of_getElem? (i := 576) (by decide +kernel)), w_3, Nat.le_of_ble_eq_true rfl, ⟨by decide +kernel, by decide +kernel⟩, by decide +kernel, by decide +kernel, rfl⟩
theorem w_573 : Cond.methodLink "BeaconIndex$Store" 69 ⟨"BeaconIndex$Store", "startOf", "(I)I"⟩ ∈ lw_tbl := List.mem_append_right _ (List.mem_of_getElem? (i := 573) (by decide +kernel))
theorem w_574 : Cond.instanceMethod ⟨"BeaconIndex$Store", "startOf", "(I)I"⟩ ∈ lw_tbl := List.mem_append_right _ (List.mem_of_getElem? (i := 574) (by decide +kernel))
theorem w_575 : Cond.selects "BeaconIndex$Store" ⟨"BeaconIndex$Store", "startOf", "(I)I"⟩ ⟨"BeaconIndex$Store", "startOf", "(I)I"⟩ ∈ lw_tbl := List.mem_append_right _ (List.mem_of_getElem? (i := 575) (by decide +kernel))
theorem d_Store_textOf_6 : decode prog_8_method_10_code 6 = .ok (.iload_n 2, 1) := by decide +kernel
theorem d_Store_textOf_7 : decode prog_8_method_10_code 7 = .ok (.iadd, 1) := by decide +kernel
theorem d_Store_textOf_8 : decode prog_8_method_10_code 8 = .ok (.invokevirtual 72, 3) := by decide +kernel
theorem k_Store_filedAt : xCal m_Store_filedAt 1 := ⟨List.mem_append_right _ (List.mem_of_getElem? (i := 580) (by decide +kernel)), w_3, Nat.le_of_ble_eq_true rfl, ⟨by decide +kernel, by decide +kernel⟩, by decide +kernel, by decide +kernel, rfl⟩
theorem w_577 : Cond.methodLink "BeaconIndex$Store" 72 ⟨"BeaconIndex$Store", "filedAt", "(I)LBeaconIndex$Text;"⟩ ∈ lw_tbl := List.mem_append_right _ (List.mem_of_getElem? (i := 577) (by decide +kernel))
theorem w_578 : Cond.instanceMethod ⟨"BeaconIndex$Store", "filedAt", "(I)LBeaconIndex$Text;"⟩ ∈ lw_tbl := List.mem_append_right _ (List.mem_of_getElem? (i := 578) (by decide +kernel))
theorem w_579 : Cond.selects "BeaconIndex$Store" ⟨"BeaconIndex$Store", "filedAt", "(I)LBeaconIndex$Text;"⟩ ⟨"BeaconIndex$Store", "filedAt", "(I)LBeaconIndex$Text;"⟩ ∈ lw_tbl := List.mem_append_right _ (List.mem_of_getElem? (i := 579) (by decide +kernel))
theorem d_Store_textOf_11 : decode prog_8_method_10_code 11 = .ok (.areturn, 1) := by decide +kernel
theorem v_Store_textOf_0 {G : XG} {d : Nat} {h : XH} {Q : XV → XH → Prop} {X : Nat → XH → Prop} {x1 x2 : Int} (F : xFix h) (hyp : stok h ∧ xiR ((stA (szL h) x1) + x2) ∧ (Q (xR (fat h ((stA (szL h) x1) + x2))) h)) : xwp G m_Store_textOf (d + 5) 0 [xR 5, xI x1, xI x2] [] h Q X := by
  have hnx9 : (93 : Int) ≤ xnx h := F.2.2
  refine xr_okL (fun hl9 => ?_)
  have r_x1 : -2147483648 ≤ x1 ∧ x1 ≤ 2147483647 := hl9 (xI x1) (.tail _ (.head _)) (Nat.le_of_ble_eq_true rfl)
  have r_x2 : -2147483648 ≤ x2 ∧ x2 ≤ 2147483647 := hl9 (xI x2) (.tail _ (.tail _ (.head _))) (Nat.le_of_ble_eq_true rfl)
  refine xr_aload_n (pc := 0) (i := 0) (hI := d_Store_textOf_0) (hi := rfl) (hl := rfl) ?_
  refine xr_aload_n (pc := 1) (i := 0) (hI := d_Store_textOf_1) (hi := rfl) (hl := rfl) ?_
  refine xr_iload_n (pc := 2) (i := 1) (hI := d_Store_textOf_2) (hi := rfl) (hl := rfl) ?_
  obtain ⟨c1_, hyp⟩ := hyp
  refine xq_callV (pc := 3) (index := 69) (K := m_Store_startOf) (As := [xI x1]) (S := [xR 5]) (L0 := [xR 5, xI x1, xZ, xZ]) (hI := d_Store_textOf_3) (hK := k_Store_startOf) (hlk := w_573) (hnoM := rfl) (hS8 := Nat.le_of_ble_eq_true rfl) (ci := 7) (N := 6) (C := "BeaconIndex$Store") (T := xF7) (hc := rfl) (hci := Nat.le_of_ble_eq_true rfl) (htb := (ft_5 F)) (hinst := w_574) (hsel := w_575) (hlen := Nat.le_of_ble_eq_true rfl) (hst := rfl) (hL0 := rfl)  (p_Store_startOf F c1_ ?_)
  show xwp G m_Store_textOf (d + 5) 6 [xR 5, xI x1, xI x2] [xI (stA (szL h) x1), xR 5] _ _ _
  have f2_ : 0 ≤ (stA (szL h) x1) ∧ (stA (szL h) x1) ≤ 3600 := stA_rng c1_ _
  refine xr_iload_n (pc := 6) (i := 2) (hI := d_Store_textOf_6) (hi := rfl) (hl := rfl) ?_
  obtain ⟨c9, hyp⟩ := hyp
  refine xr_iadd (pc := 7) (hI := d_Store_textOf_7) (hr := c9) ?_
  refine xq_callV (pc := 8) (index := 72) (K := m_Store_filedAt) (As := [xI ((stA (szL h) x1) + x2)]) (S := []) (L0 := [xR 5, xI ((stA (szL h) x1) + x2)]) (hI := d_Store_textOf_8) (hK := k_Store_filedAt) (hlk := w_577) (hnoM := rfl) (hS8 := Nat.le_of_ble_eq_true rfl) (ci := 7) (N := 6) (C := "BeaconIndex$Store") (T := xF7) (hc := rfl) (hci := Nat.le_of_ble_eq_true rfl) (htb := (ft_5 F)) (hinst := w_578) (hsel := w_579) (hlen := Nat.le_of_ble_eq_true rfl) (hst := rfl) (hL0 := rfl)  (p_Store_filedAt F c1_ ?_)
  show xwp G m_Store_textOf (d + 5) 11 [xR 5, xI x1, xI x2] [xR (fat h ((stA (szL h) x1) + x2))] _ _ _
  have t3_ : xtg h (fat h ((stA (szL h) x1) + x2)) = 9 := (fat_ok F c1_ _).1
  refine xr_areturn (S := []) (pc := 11) (hI := d_Store_textOf_11) (hr := rfl) (hrt := Or.inl ⟨_, rfl⟩) ?_
  exact hyp
abbrev m_Store_markedAmong : XM := (⟨"BeaconIndex$Store", "markedAmong", "(I)I"⟩, prog_8_method_11_code, 5, (some .int), [])
theorem d_Store_markedAmong_0 : decode prog_8_method_11_code 0 = .ok (.aload_n 0, 1) := by decide +kernel
theorem d_Store_markedAmong_1 : decode prog_8_method_11_code 1 = .ok (.iload_n 1, 1) := by decide +kernel
theorem d_Store_markedAmong_2 : decode prog_8_method_11_code 2 = .ok (.invokevirtual 69, 3) := by decide +kernel
theorem d_Store_markedAmong_5 : decode prog_8_method_11_code 5 = .ok (.istore_n 2, 1) := by decide +kernel
theorem d_Store_markedAmong_6 : decode prog_8_method_11_code 6 = .ok (.iconst 0, 1) := by decide +kernel
theorem d_Store_markedAmong_7 : decode prog_8_method_11_code 7 = .ok (.istore_n 3, 1) := by decide +kernel
theorem d_Store_markedAmong_8 : decode prog_8_method_11_code 8 = .ok (.iconst 0, 1) := by decide +kernel
theorem d_Store_markedAmong_9 : decode prog_8_method_11_code 9 = .ok (.istore 4, 2) := by decide +kernel
theorem v_Store_markedAmong_0 {G : XG} {d : Nat} {h : XH} {Q : XV → XH → Prop} {X : Nat → XH → Prop} {x1 : Int} (F : xFix h) (hyp : stok h ∧ (xwp G m_Store_markedAmong (d + 5) 11 [xR 5, xI x1, xI (stA (szL h) x1), xI 0, xI 0] [] h Q X)) : xwp G m_Store_markedAmong (d + 5) 0 [xR 5, xI x1, xZ, xZ, xZ] [] h Q X := by
  have hnx9 : (93 : Int) ≤ xnx h := F.2.2
  refine xr_okL (fun hl9 => ?_)
  have r_x1 : -2147483648 ≤ x1 ∧ x1 ≤ 2147483647 := hl9 (xI x1) (.tail _ (.head _)) (Nat.le_of_ble_eq_true rfl)
  refine xr_aload_n (pc := 0) (i := 0) (hI := d_Store_markedAmong_0) (hi := rfl) (hl := rfl) ?_
  refine xr_iload_n (pc := 1) (i := 1) (hI := d_Store_markedAmong_1) (hi := rfl) (hl := rfl) ?_
  obtain ⟨c1_, hyp⟩ := hyp
  refine xq_callV (pc := 2) (index := 69) (K := m_Store_startOf) (As := [xI x1]) (S := []) (L0 := [xR 5, xI x1, xZ, xZ]) (hI := d_Store_markedAmong_2) (hK := k_Store_startOf) (hlk := w_573) (hnoM := rfl) (hS8 := Nat.le_of_ble_eq_true rfl) (ci := 7) (N := 6) (C := "BeaconIndex$Store") (T := xF7) (hc := rfl) (hci := Nat.le_of_ble_eq_true rfl) (htb := (ft_5 F)) (hinst := w_574) (hsel := w_575) (hlen := Nat.le_of_ble_eq_true rfl) (hst := rfl) (hL0 := rfl)  (p_Store_startOf F c1_ ?_)
  show xwp G m_Store_markedAmong (d + 5) 5 [xR 5, xI x1, xZ, xZ, xZ] [xI (stA (szL h) x1)] _ _ _
  have f2_ : 0 ≤ (stA (szL h) x1) ∧ (stA (szL h) x1) ≤ 3600 := stA_rng c1_ _
  refine xr_istore_n (pc := 5) (i := 2) (L9 := [xR 5, xI x1, xI (stA (szL h) x1), xZ, xZ]) (hI := d_Store_markedAmong_5) (hi := rfl) (hn := Nat.le_of_ble_eq_true rfl) (hL9 := rfl) ?_
  refine xr_iconst (pc := 6) (hI := d_Store_markedAmong_6) (hr := by decide) ?_
  refine xr_istore_n (pc := 7) (i := 3) (L9 := [xR 5, xI x1, xI (stA (szL h) x1), xI 0, xZ]) (hI := d_Store_markedAmong_7) (hi := rfl) (hn := Nat.le_of_ble_eq_true rfl) (hL9 := rfl) ?_
  refine xr_iconst (pc := 8) (hI := d_Store_markedAmong_8) (hr := by decide) ?_
  refine xr_istore (pc := 9) (i := 4) (L9 := [xR 5, xI x1, xI (stA (szL h) x1), xI 0, xI 0]) (hI := d_Store_markedAmong_9) (hn := Nat.le_of_ble_eq_true rfl) (hL9 := rfl) ?_
  exact hyp
theorem d_Store_markedAmong_11 : decode prog_8_method_11_code 11 = .ok (.iload 4, 2) := by decide +kernel
theorem d_Store_markedAmong_13 : decode prog_8_method_11_code 13 = .ok (.aload_n 0, 1) := by decide +kernel
theorem d_Store_markedAmong_14 : decode prog_8_method_11_code 14 = .ok (.iload_n 1, 1) := by decide +kernel
theorem d_Store_markedAmong_15 : decode prog_8_method_11_code 15 = .ok (.invokevirtual 66, 3) := by decide +kernel
theorem d_Store_markedAmong_18 : decode prog_8_method_11_code 18 = .ok (.if_icmp .ge 26, 3) := by decide +kernel
theorem d_Store_markedAmong_44 : decode prog_8_method_11_code 44 = .ok (.iload_n 3, 1) := by decide +kernel
theorem d_Store_markedAmong_45 : decode prog_8_method_11_code 45 = .ok (.ireturn, 1) := by decide +kernel
theorem d_Store_markedAmong_21 : decode prog_8_method_11_code 21 = .ok (.aload_n 0, 1) := by decide +kernel
theorem d_Store_markedAmong_22 : decode prog_8_method_11_code 22 = .ok (.iload_n 2, 1) := by decide +kernel
theorem d_Store_markedAmong_23 : decode prog_8_method_11_code 23 = .ok (.iload 4, 2) := by decide +kernel
theorem d_Store_markedAmong_25 : decode prog_8_method_11_code 25 = .ok (.iadd, 1) := by decide +kernel
theorem d_Store_markedAmong_26 : decode prog_8_method_11_code 26 = .ok (.invokevirtual 72, 3) := by decide +kernel
theorem d_Store_markedAmong_29 : decode prog_8_method_11_code 29 = .ok (.getfield 52, 3) := by decide +kernel
theorem d_Store_markedAmong_32 : decode prog_8_method_11_code 32 = .ok (.ifCond .eq 6, 3) := by decide +kernel
theorem d_Store_markedAmong_38 : decode prog_8_method_11_code 38 = .ok (.iinc 4 1, 3) := by decide +kernel
theorem d_Store_markedAmong_41 : decode prog_8_method_11_code 41 = .ok (.goto (-30), 3) := by decide +kernel
theorem d_Store_markedAmong_35 : decode prog_8_method_11_code 35 = .ok (.iinc 3 1, 3) := by decide +kernel
theorem v_Store_markedAmong_11 {G : XG} {d : Nat} {h : XH} {Q : XV → XH → Prop} {X : Nat → XH → Prop} {x1 x2 x3 x4 : Int} (F : xFix h) (hyp : stok h ∧ (((szA (szL h) x1) ≤ x4 → (Q (xI x3) h)) ∧ (¬ (szA (szL h) x1) ≤ x4 → xiR (x2 + x4) ∧ (((xpl h (fat h (x2 + x4)) 5) = 0 → (xwp G m_Store_markedAmong (d + 5) 11 [xR 5, xI x1, xI x2, xI x3, xI (x4 + 1)] [] h Q X)) ∧ (¬ (xpl h (fat h (x2 + x4)) 5) = 0 → xiR (x3 + 1) ∧ (xwp G m_Store_markedAmong (d + 5) 11 [xR 5, xI x1, xI x2, xI (x3 + 1), xI (x4 + 1)] [] h Q X)))))) : xwp G m_Store_markedAmong (d + 5) 11 [xR 5, xI x1, xI x2, xI x3, xI x4] [] h Q X := by
  have hnx9 : (93 : Int) ≤ xnx h := F.2.2
  refine xr_okL (fun hl9 => ?_)
  have r_x1 : -2147483648 ≤ x1 ∧ x1 ≤ 2147483647 := hl9 (xI x1) (.tail _ (.head _)) (Nat.le_of_ble_eq_true rfl)
  have r_x2 : -2147483648 ≤ x2 ∧ x2 ≤ 2147483647 := hl9 (xI x2) (.tail _ (.tail _ (.head _))) (Nat.le_of_ble_eq_true rfl)
  have r_x3 : -2147483648 ≤ x3 ∧ x3 ≤ 2147483647 := hl9 (xI x3) (.tail _ (.tail _ (.tail _ (.head _)))) (Nat.le_of_ble_eq_true rfl)
  have r_x4 : -2147483648 ≤ x4 ∧ x4 ≤ 2147483647 := hl9 (xI x4) (.tail _ (.tail _ (.tail _ (.tail _ (.head _))))) (Nat.le_of_ble_eq_true rfl)
  refine xr_iload (pc := 11) (i := 4) (hI := d_Store_markedAmong_11) (hl := rfl) ?_
  refine xr_aload_n (pc := 13) (i := 0) (hI := d_Store_markedAmong_13) (hi := rfl) (hl := rfl) ?_
  refine xr_iload_n (pc := 14) (i := 1) (hI := d_Store_markedAmong_14) (hi := rfl) (hl := rfl) ?_
  obtain ⟨c1_, hyp⟩ := hyp
  refine xq_callV (pc := 15) (index := 66) (K := m_Store_sizeOf) (As := [xI x1]) (S := [xI x4]) (L0 := [xR 5, xI x1]) (hI := d_Store_markedAmong_15) (hK := k_Store_sizeOf) (hlk := w_565) (hnoM := rfl) (hS8 := Nat.le_of_ble_eq_true rfl) (ci := 7) (N := 6) (C := "BeaconIndex$Store") (T := xF7) (hc := rfl) (hci := Nat.le_of_ble_eq_true rfl) (htb := (ft_5 F)) (hinst := w_566) (hsel := w_567) (hlen := Nat.le_of_ble_eq_true rfl) (hst := rfl) (hL0 := rfl)  (p_Store_sizeOf F c1_ ?_)
  show xwp G m_Store_markedAmong (d + 5) 18 [xR 5, xI x1, xI x2, xI x3, xI x4] [xI (szA (szL h) x1), xI x4] _ _ _
  have f2_ : 0 ≤ (szA (szL h) x1) ∧ (szA (szL h) x1) ≤ 60 := szA_rng c1_ _
  refine xr_icmp_ge (pc := 18) (tgt := 44) (hI := d_Store_markedAmong_18) (ht := by decide) (fun q9 => ?_) (fun q9 => ?_)
  · replace hyp := hyp.1 q9
    have q3_ := q9
    clear q9
    refine xr_iload_n (pc := 44) (i := 3) (hI := d_Store_markedAmong_44) (hi := rfl) (hl := rfl) ?_
    refine xr_ireturn (S := []) (pc := 45) (hI := d_Store_markedAmong_45) (hr := rfl) ?_
    exact hyp
  · replace hyp := hyp.2 q9
    have q3_ := q9
    clear q9
    refine xr_aload_n (pc := 21) (i := 0) (hI := d_Store_markedAmong_21) (hi := rfl) (hl := rfl) ?_
    refine xr_iload_n (pc := 22) (i := 2) (hI := d_Store_markedAmong_22) (hi := rfl) (hl := rfl) ?_
    refine xr_iload (pc := 23) (i := 4) (hI := d_Store_markedAmong_23) (hl := rfl) ?_
    obtain ⟨c9, hyp⟩ := hyp
    refine xr_iadd (pc := 25) (hI := d_Store_markedAmong_25) (hr := c9) ?_
    refine xq_callV (pc := 26) (index := 72) (K := m_Store_filedAt) (As := [xI (x2 + x4)]) (S := []) (L0 := [xR 5, xI (x2 + x4)]) (hI := d_Store_markedAmong_26) (hK := k_Store_filedAt) (hlk := w_577) (hnoM := rfl) (hS8 := Nat.le_of_ble_eq_true rfl) (ci := 7) (N := 6) (C := "BeaconIndex$Store") (T := xF7) (hc := rfl) (hci := Nat.le_of_ble_eq_true rfl) (htb := (ft_5 F)) (hinst := w_578) (hsel := w_579) (hlen := Nat.le_of_ble_eq_true rfl) (hst := rfl) (hL0 := rfl)  (p_Store_filedAt F c1_ ?_)
    show xwp G m_Store_markedAmong (d + 5) 29 [xR 5, xI x1, xI x2, xI x3, xI x4] [xR (fat h (x2 + x4))] _ _ _
    have t4_ : xtg h (fat h (x2 + x4)) = 9 := (fat_ok F c1_ _).1
    refine xg_getfZ (pc := 29) (ci := 9) (k := 5) (N := 6) (v := (xpl h (fat h (x2 + x4)) 5)) (T := xF9) (hI := d_Store_markedAmong_29) (hw := w_132) rfl xi9 (Or.inl rfl) (Nat.le_of_ble_eq_true rfl) (Nat.le_of_ble_eq_true rfl) rfl t4_ rfl (fun f5_ => ?_)
    refine xr_if_eq (pc := 32) (tgt := 38) (hI := d_Store_markedAmong_32) (ht := by decide) (fun q9 => ?_) (fun q9 => ?_)
    · replace hyp := hyp.1 q9
      have q6_ := q9
      clear q9
      refine xr_iinc (pc := 38) (i := 4) (L9 := [xR 5, xI x1, xI x2, xI x3, xI (x4 + 1)]) (hI := d_Store_markedAmong_38) (hl := rfl) (hn := Nat.le_of_ble_eq_true rfl) (hr := ⟨by clear hyp; omega, by clear hyp; omega⟩) (hL9 := rfl) ?_
      refine xr_goto (pc := 41) (tgt := 11) (hI := d_Store_markedAmong_41) (ht := by decide) ?_
      exact hyp
    · replace hyp := hyp.2 q9
      have q6_ := q9
      clear q9
      obtain ⟨c9, hyp⟩ := hyp
      refine xr_iinc (pc := 35) (i := 3) (L9 := [xR 5, xI x1, xI x2, xI (x3 + 1), xI x4]) (hI := d_Store_markedAmong_35) (hl := rfl) (hn := Nat.le_of_ble_eq_true rfl) (hr := c9) (hL9 := rfl) ?_
      refine xr_iinc (pc := 38) (i := 4) (L9 := [xR 5, xI x1, xI x2, xI (x3 + 1), xI (x4 + 1)]) (hI := d_Store_markedAmong_38) (hl := rfl) (hn := Nat.le_of_ble_eq_true rfl) (hr := ⟨by clear hyp; omega, by clear hyp; omega⟩) (hL9 := rfl) ?_
      refine xr_goto (pc := 41) (tgt := 11) (hI := d_Store_markedAmong_41) (ht := by decide) ?_
      exact hyp
abbrev m_Store_firstOfThreeAlike : XM := (⟨"BeaconIndex$Store", "firstOfThreeAlike", "()I"⟩, prog_8_method_16_code, 3, (some .int), [])
theorem d_Store_firstOfThreeAlike_0 : decode prog_8_method_16_code 0 = .ok (.iconst 0, 1) := by decide +kernel
theorem d_Store_firstOfThreeAlike_1 : decode prog_8_method_16_code 1 = .ok (.istore_n 1, 1) := by decide +kernel
theorem v_Store_firstOfThreeAlike_0 {G : XG} {d : Nat} {h : XH} {Q : XV → XH → Prop} {X : Nat → XH → Prop} (F : xFix h) (hyp : (xwp G m_Store_firstOfThreeAlike (d + 3) 2 [xR 5, xI 0, xZ] [] h Q X)) : xwp G m_Store_firstOfThreeAlike (d + 3) 0 [xR 5, xZ, xZ] [] h Q X := by
  have hnx9 : (93 : Int) ≤ xnx h := F.2.2
  refine xr_iconst (pc := 0) (hI := d_Store_firstOfThreeAlike_0) (hr := by decide) ?_
  refine xr_istore_n (pc := 1) (i := 1) (L9 := [xR 5, xI 0, xZ]) (hI := d_Store_firstOfThreeAlike_1) (hi := rfl) (hn := Nat.le_of_ble_eq_true rfl) (hL9 := rfl) ?_
  exact hyp
theorem d_Store_firstOfThreeAlike_2 : decode prog_8_method_16_code 2 = .ok (.iload_n 1, 1) := by decide +kernel
theorem d_Store_firstOfThreeAlike_3 : decode prog_8_method_16_code 3 = .ok (.iconst 3, 1) := by decide +kernel
theorem d_Store_firstOfThreeAlike_4 : decode prog_8_method_16_code 4 = .ok (.iadd, 1) := by decide +kernel
theorem d_Store_firstOfThreeAlike_5 : decode prog_8_method_16_code 5 = .ok (.aload_n 0, 1) := by decide +kernel
theorem d_Store_firstOfThreeAlike_6 : decode prog_8_method_16_code 6 = .ok (.getfield 34, 3) := by decide +kernel
theorem d_Store_firstOfThreeAlike_9 : decode prog_8_method_16_code 9 = .ok (.if_icmp .gt 39, 3) := by decide +kernel
theorem d_Store_firstOfThreeAlike_48 : decode prog_8_method_16_code 48 = .ok (.iconst (-1), 1) := by decide +kernel
theorem d_Store_firstOfThreeAlike_49 : decode prog_8_method_16_code 49 = .ok (.ireturn, 1) := by decide +kernel
theorem d_Store_firstOfThreeAlike_12 : decode prog_8_method_16_code 12 = .ok (.aload_n 0, 1) := by decide +kernel
theorem d_Store_firstOfThreeAlike_13 : decode prog_8_method_16_code 13 = .ok (.iload_n 1, 1) := by decide +kernel
theorem d_Store_firstOfThreeAlike_14 : decode prog_8_method_16_code 14 = .ok (.invokevirtual 97, 3) := by decide +kernel
theorem k_Store_levelAt : xCal m_Store_levelAt 1 := ⟨List.mem_append_right _ (List.mem_of_getElem? (i := 564) (by decide +kernel)), w_3, Nat.le_of_ble_eq_true rfl, ⟨by decide +kernel, by decide +kernel⟩, by decide +kernel, by decide +kernel, rfl⟩
theorem w_561 : Cond.methodLink "BeaconIndex$Store" 97 ⟨"BeaconIndex$Store", "levelAt", "(I)I"⟩ ∈ lw_tbl := List.mem_append_right _ (List.mem_of_getElem? (i := 561) (by decide +kernel))
theorem w_562 : Cond.instanceMethod ⟨"BeaconIndex$Store", "levelAt", "(I)I"⟩ ∈ lw_tbl := List.mem_append_right _ (List.mem_of_getElem? (i := 562) (by decide +kernel))
theorem w_563 : Cond.selects "BeaconIndex$Store" ⟨"BeaconIndex$Store", "levelAt", "(I)I"⟩ ⟨"BeaconIndex$Store", "levelAt", "(I)I"⟩ ∈ lw_tbl := List.mem_append_right _ (List.mem_of_getElem? (i := 563) (by decide +kernel))
theorem d_Store_firstOfThreeAlike_17 : decode prog_8_method_16_code 17 = .ok (.istore_n 2, 1) := by decide +kernel
theorem d_Store_firstOfThreeAlike_18 : decode prog_8_method_16_code 18 = .ok (.aload_n 0, 1) := by decide +kernel
theorem d_Store_firstOfThreeAlike_19 : decode prog_8_method_16_code 19 = .ok (.iload_n 1, 1) := by decide +kernel
theorem d_Store_firstOfThreeAlike_20 : decode prog_8_method_16_code 20 = .ok (.iconst 1, 1) := by decide +kernel
theorem d_Store_firstOfThreeAlike_21 : decode prog_8_method_16_code 21 = .ok (.iadd, 1) := by decide +kernel
theorem d_Store_firstOfThreeAlike_22 : decode prog_8_method_16_code 22 = .ok (.invokevirtual 97, 3) := by decide +kernel
theorem d_Store_firstOfThreeAlike_25 : decode prog_8_method_16_code 25 = .ok (.iload_n 2, 1) := by decide +kernel
theorem d_Store_firstOfThreeAlike_26 : decode prog_8_method_16_code 26 = .ok (.if_icmp .ne 16, 3) := by decide +kernel
theorem d_Store_firstOfThreeAlike_42 : decode prog_8_method_16_code 42 = .ok (.iinc 1 1, 3) := by decide +kernel
theorem d_Store_firstOfThreeAlike_45 : decode prog_8_method_16_code 45 = .ok (.goto (-43), 3) := by decide +kernel
theorem d_Store_firstOfThreeAlike_29 : decode prog_8_method_16_code 29 = .ok (.aload_n 0, 1) := by decide +kernel
theorem d_Store_firstOfThreeAlike_30 : decode prog_8_method_16_code 30 = .ok (.iload_n 1, 1) := by decide +kernel
theorem d_Store_firstOfThreeAlike_31 : decode prog_8_method_16_code 31 = .ok (.iconst 2, 1) := by decide +kernel
theorem d_Store_firstOfThreeAlike_32 : decode prog_8_method_16_code 32 = .ok (.iadd, 1) := by decide +kernel
theorem d_Store_firstOfThreeAlike_33 : decode prog_8_method_16_code 33 = .ok (.invokevirtual 97, 3) := by decide +kernel
theorem d_Store_firstOfThreeAlike_36 : decode prog_8_method_16_code 36 = .ok (.iload_n 2, 1) := by decide +kernel
theorem d_Store_firstOfThreeAlike_37 : decode prog_8_method_16_code 37 = .ok (.if_icmp .ne 5, 3) := by decide +kernel
theorem d_Store_firstOfThreeAlike_40 : decode prog_8_method_16_code 40 = .ok (.iload_n 1, 1) := by decide +kernel
theorem d_Store_firstOfThreeAlike_41 : decode prog_8_method_16_code 41 = .ok (.ireturn, 1) := by decide +kernel
theorem v_Store_firstOfThreeAlike_2 {G : XG} {d : Nat} {h : XH} {Q : XV → XH → Prop} {X : Nat → XH → Prop} {x1 : Int} (F : xFix h) (hyp : xiR (x1 + 3) ∧ (((xpl h 5 4) < (x1 + 3) → (Q (xI (-1)) h)) ∧ (¬ (xpl h 5 4) < (x1 + 3) → stok h ∧ (((lvl (szA (szL h) (x1 + 1))) = (lvl (szA (szL h) x1)) → (((lvl (szA (szL h) (x1 + 2))) = (lvl (szA (szL h) x1)) → (Q (xI x1) h)) ∧ (¬ (lvl (szA (szL h) (x1 + 2))) = (lvl (szA (szL h) x1)) → (xwp G m_Store_firstOfThreeAlike (d + 3) 2 [xR 5, xI (x1 + 1), xZ] [] h Q X)))) ∧ (¬ (lvl (szA (szL h) (x1 + 1))) = (lvl (szA (szL h) x1)) → (xwp G m_Store_firstOfThreeAlike (d + 3) 2 [xR 5, xI (x1 + 1), xZ] [] h Q X)))))) : xwp G m_Store_firstOfThreeAlike (d + 3) 2 [xR 5, xI x1, xZ] [] h Q X := by
  have hnx9 : (93 : Int) ≤ xnx h := F.2.2
  refine xr_okL (fun hl9 => ?_)
  have r_x1 : -2147483648 ≤ x1 ∧ x1 ≤ 2147483647 := hl9 (xI x1) (.tail _ (.head _)) (Nat.le_of_ble_eq_true rfl)
  refine xr_iload_n (pc := 2) (i := 1) (hI := d_Store_firstOfThreeAlike_2) (hi := rfl) (hl := rfl) ?_
  refine xr_iconst (pc := 3) (hI := d_Store_firstOfThreeAlike_3) (hr := by decide) ?_
  obtain ⟨c9, hyp⟩ := hyp
  refine xr_iadd (pc := 4) (hI := d_Store_firstOfThreeAlike_4) (hr := c9) ?_
  refine xr_aload_n (pc := 5) (i := 0) (hI := d_Store_firstOfThreeAlike_5) (hi := rfl) (hl := rfl) ?_
  refine xg_getf (pc := 6) (ci := 7) (k := 4) (N := 6) (v9 := 0) (v := (xpl h 5 4)) (T := xF7) (hI := d_Store_firstOfThreeAlike_6) (hw := w_154) rfl xi7 (Or.inl rfl) (Nat.le_of_ble_eq_true rfl) (Nat.le_of_ble_eq_true rfl) rfl (ft_5 F) rfl (fun f1_ => ?_)
  replace f1_ : -2147483648 ≤ (xpl h 5 4) ∧ (xpl h 5 4) ≤ 2147483647 := f1_
  refine xr_icmp_gt (pc := 9) (tgt := 48) (hI := d_Store_firstOfThreeAlike_9) (ht := by decide) (fun q9 => ?_) (fun q9 => ?_)
  · replace hyp := hyp.1 q9
    have q2_ := q9
    clear q9
    refine xr_iconst (pc := 48) (hI := d_Store_firstOfThreeAlike_48) (hr := by decide) ?_
    refine xr_ireturn (S := []) (pc := 49) (hI := d_Store_firstOfThreeAlike_49) (hr := rfl) ?_
    exact hyp
  · replace hyp := hyp.2 q9
    have q2_ := q9
    clear q9
    refine xr_aload_n (pc := 12) (i := 0) (hI := d_Store_firstOfThreeAlike_12) (hi := rfl) (hl := rfl) ?_
    refine xr_iload_n (pc := 13) (i := 1) (hI := d_Store_firstOfThreeAlike_13) (hi := rfl) (hl := rfl) ?_
    obtain ⟨c3_, hyp⟩ := hyp
    refine xq_callV (pc := 14) (index := 97) (K := m_Store_levelAt) (As := [xI x1]) (S := []) (L0 := [xR 5, xI x1, xZ]) (hI := d_Store_firstOfThreeAlike_14) (hK := k_Store_levelAt) (hlk := w_561) (hnoM := rfl) (hS8 := Nat.le_of_ble_eq_true rfl) (ci := 7) (N := 6) (C := "BeaconIndex$Store") (T := xF7) (hc := rfl) (hci := Nat.le_of_ble_eq_true rfl) (htb := (ft_5 F)) (hinst := w_562) (hsel := w_563) (hlen := Nat.le_of_ble_eq_true rfl) (hst := rfl) (hL0 := rfl)  (p_Store_levelAt F c3_ ?_)
    show xwp G m_Store_firstOfThreeAlike (d + 3) 17 [xR 5, xI x1, xZ] [xI (lvl (szA (szL h) x1))] _ _ _
    have f4_ : 0 ≤ (lvl (szA (szL h) x1)) ∧ (lvl (szA (szL h) x1)) ≤ 3 := lvl_rng _
    refine xr_istore_n (pc := 17) (i := 2) (L9 := [xR 5, xI x1, xI (lvl (szA (szL h) x1))]) (hI := d_Store_firstOfThreeAlike_17) (hi := rfl) (hn := Nat.le_of_ble_eq_true rfl) (hL9 := rfl) ?_
    refine xr_aload_n (pc := 18) (i := 0) (hI := d_Store_firstOfThreeAlike_18) (hi := rfl) (hl := rfl) ?_
    refine xr_iload_n (pc := 19) (i := 1) (hI := d_Store_firstOfThreeAlike_19) (hi := rfl) (hl := rfl) ?_
    refine xr_iconst (pc := 20) (hI := d_Store_firstOfThreeAlike_20) (hr := by decide) ?_
    refine xr_iadd (pc := 21) (hI := d_Store_firstOfThreeAlike_21) (hr := ⟨by clear hyp; omega, by clear hyp; omega⟩) ?_
    refine xq_callV (pc := 22) (index := 97) (K := m_Store_levelAt) (As := [xI (x1 + 1)]) (S := []) (L0 := [xR 5, xI (x1 + 1), xZ]) (hI := d_Store_firstOfThreeAlike_22) (hK := k_Store_levelAt) (hlk := w_561) (hnoM := rfl) (hS8 := Nat.le_of_ble_eq_true rfl) (ci := 7) (N := 6) (C := "BeaconIndex$Store") (T := xF7) (hc := rfl) (hci := Nat.le_of_ble_eq_true rfl) (htb := (ft_5 F)) (hinst := w_562) (hsel := w_563) (hlen := Nat.le_of_ble_eq_true rfl) (hst := rfl) (hL0 := rfl)  (p_Store_levelAt F c3_ ?_)
    show xwp G m_Store_firstOfThreeAlike (d + 3) 25 [xR 5, xI x1, xI (lvl (szA (szL h) x1))] [xI (lvl (szA (szL h) (x1 + 1)))] _ _ _
    have f5_ : 0 ≤ (lvl (szA (szL h) (x1 + 1))) ∧ (lvl (szA (szL h) (x1 + 1))) ≤ 3 := lvl_rng _
    refine xr_iload_n (pc := 25) (i := 2) (hI := d_Store_firstOfThreeAlike_25) (hi := rfl) (hl := rfl) ?_
    refine xr_icmp_ne (pc := 26) (tgt := 42) (hI := d_Store_firstOfThreeAlike_26) (ht := by decide) (fun q9 => ?_) (fun q9 => ?_)
    · replace hyp := hyp.2 q9
      have q6_ := q9
      clear q9
      refine xr_iinc (pc := 42) (i := 1) (L9 := [xR 5, xI (x1 + 1), xI (lvl (szA (szL h) x1))]) (hI := d_Store_firstOfThreeAlike_42) (hl := rfl) (hn := Nat.le_of_ble_eq_true rfl) (hr := ⟨by clear hyp; omega, by clear hyp; omega⟩) (hL9 := rfl) ?_
      refine xr_goto (pc := 45) (tgt := 2) (hI := d_Store_firstOfThreeAlike_45) (ht := by decide) ?_
      exact xr_drop (L9 := [xR 5, xI (x1 + 1), xZ]) (xdrs (xdrs (xdrz xdr0))) hyp
    · replace hyp := hyp.1 q9
      have q6_ := q9
      clear q9
      refine xr_aload_n (pc := 29) (i := 0) (hI := d_Store_firstOfThreeAlike_29) (hi := rfl) (hl := rfl) ?_
      refine xr_iload_n (pc := 30) (i := 1) (hI := d_Store_firstOfThreeAlike_30) (hi := rfl) (hl := rfl) ?_
      refine xr_iconst (pc := 31) (hI := d_Store_firstOfThreeAlike_31) (hr := by decide) ?_
      refine xr_iadd (pc := 32) (hI := d_Store_firstOfThreeAlike_32) (hr := ⟨by clear hyp; omega, by clear hyp; omega⟩) ?_
      refine xq_callV (pc := 33) (index := 97) (K := m_Store_levelAt) (As := [xI (x1 + 2)]) (S := []) (L0 := [xR 5, xI (x1 + 2), xZ]) (hI := d_Store_firstOfThreeAlike_33) (hK := k_Store_levelAt) (hlk := w_561) (hnoM := rfl) (hS8 := Nat.le_of_ble_eq_true rfl) (ci := 7) (N := 6) (C := "BeaconIndex$Store") (T := xF7) (hc := rfl) (hci := Nat.le_of_ble_eq_true rfl) (htb := (ft_5 F)) (hinst := w_562) (hsel := w_563) (hlen := Nat.le_of_ble_eq_true rfl) (hst := rfl) (hL0 := rfl)  (p_Store_levelAt F c3_ ?_)
      show xwp G m_Store_firstOfThreeAlike (d + 3) 36 [xR 5, xI x1, xI (lvl (szA (szL h) x1))] [xI (lvl (szA (szL h) (x1 + 2)))] _ _ _
      have f7_ : 0 ≤ (lvl (szA (szL h) (x1 + 2))) ∧ (lvl (szA (szL h) (x1 + 2))) ≤ 3 := lvl_rng _
      refine xr_iload_n (pc := 36) (i := 2) (hI := d_Store_firstOfThreeAlike_36) (hi := rfl) (hl := rfl) ?_
      refine xr_icmp_ne (pc := 37) (tgt := 42) (hI := d_Store_firstOfThreeAlike_37) (ht := by decide) (fun q9 => ?_) (fun q9 => ?_)
      · replace hyp := hyp.2 q9
        have q8_ := q9
        clear q9
        refine xr_iinc (pc := 42) (i := 1) (L9 := [xR 5, xI (x1 + 1), xI (lvl (szA (szL h) x1))]) (hI := d_Store_firstOfThreeAlike_42) (hl := rfl) (hn := Nat.le_of_ble_eq_true rfl) (hr := ⟨by clear hyp; omega, by clear hyp; omega⟩) (hL9 := rfl) ?_
        refine xr_goto (pc := 45) (tgt := 2) (hI := d_Store_firstOfThreeAlike_45) (ht := by decide) ?_
        exact xr_drop (L9 := [xR 5, xI (x1 + 1), xZ]) (xdrs (xdrs (xdrz xdr0))) hyp
      · replace hyp := hyp.1 q9
        have q8_ := q9
        clear q9
        refine xr_iload_n (pc := 40) (i := 1) (hI := d_Store_firstOfThreeAlike_40) (hi := rfl) (hl := rfl) ?_
        refine xr_ireturn (S := []) (pc := 41) (hI := d_Store_firstOfThreeAlike_41) (hr := rfl) ?_
        exact hyp
theorem p_Store_textOf {G : XG} {d : Nat} {h : XH} {Q : XV → XH → Prop} {X : Nat → XH → Prop} {s x : Int} (F : xFix h) (p0 : stok h) (h0 : -1000 ≤ x) (h1 : x ≤ 1000) (hq : Q (xR (fat h (stA (szL h) s + x))) h) : xwp G m_Store_textOf (d + 5) 0 [xR 5, xI s, xI x] [] h Q X := by
  have := stA_rng p0 s
  refine v_Store_textOf_0 F ?_
  refine ⟨?_, ?_⟩
  · first | exact p0 | exact ⟨by omega, by omega⟩
  · refine ⟨?_, ?_⟩
    · first | exact p0 | exact ⟨by omega, by omega⟩
    · exact hq
def mkF (h : XH) (s : Int) : Nat → Int
  | 0 => 0
  | k + 1 => mkF h s k + (if xpl h (fat h (s + k)) 5 = 0 then 0 else 1)
theorem mkF_rng (h : XH) (s : Int) : ∀ k : Nat, 0 ≤ mkF h s k ∧ mkF h s k ≤ k
  | 0 => by simp [mkF]
  | k + 1 => by
    have := mkF_rng h s k
    unfold mkF
    split <;> omega
def mkH (h : XH) (s : Int) : Int := mkF h (stA (szL h) s) (szA (szL h) s).toNat
theorem p_Store_markedAmong {G : XG} {d : Nat} {h : XH} {Q : XV → XH → Prop} {X : Nat → XH → Prop} {s : Int} (F : xFix h) (p0 : stok h) (hq : Q (xI (mkH h s)) h) : xwp G m_Store_markedAmong (d + 5) 0 [xR 5, xI s, xZ, xZ, xZ] [] h Q X := by
  have h1 := stA_rng p0 s
  have h2 := szA_rng p0 s
  have loop : ∀ (n k : Nat), k + n = (szA (szL h) s).toNat → xwp G m_Store_markedAmong (d + 5) 11 [xR 5, xI s, xI (stA (szL h) s), xI (mkF h (stA (szL h) s) k), xI k] [] h Q X := by
    intro n
    induction n with
    | zero =>
      intro k k1
      have hk : k = (szA (szL h) s).toNat := k1
      unfold mkH at hq
      rw [← hk] at hq
      refine v_Store_markedAmong_11 F ?_
      refine ⟨?_, ?_⟩
      · first | exact p0 | (have := mkF_rng h (stA (szL h) s) k; exact ⟨by omega, by omega⟩)
      · refine ⟨fun q1 => ?_, fun q1 => ?_⟩
        · exact hq
        · refine ⟨?_, ?_⟩
          · first | exact p0 | (have := mkF_rng h (stA (szL h) s) k; exact ⟨by omega, by omega⟩)
          · refine ⟨fun q2 => ?_, fun q2 => ?_⟩
            · omega
            · refine ⟨?_, ?_⟩
              · first | exact p0 | (have := mkF_rng h (stA (szL h) s) k; exact ⟨by omega, by omega⟩)
              · omega
    | succ n ih =>
      intro k k1
      have ih2 := ih (k + 1) (by omega)
      have h3 := mkF_rng h (stA (szL h) s) k
      unfold mkF at ih2
      refine v_Store_markedAmong_11 F ?_
      refine ⟨?_, ?_⟩
      · first | exact p0 | exact ⟨by omega, by omega⟩
      · refine ⟨fun q1 => ?_, fun q1 => ?_⟩
        · omega
        · refine ⟨?_, ?_⟩
          · first | exact p0 | exact ⟨by omega, by omega⟩
          · refine ⟨fun q2 => ?_, fun q2 => ?_⟩
            · rw [if_pos q2, Int.add_zero] at ih2; exact ih2
            · refine ⟨?_, ?_⟩
              · first | exact p0 | exact ⟨by omega, by omega⟩
              · rw [if_neg q2] at ih2; exact ih2
  refine v_Store_markedAmong_0 F ?_
  refine ⟨?_, ?_⟩
  · exact p0
  · exact loop (szA (szL h) s).toNat 0 (by omega)
theorem mkH_rng {h : XH} (p0 : stok h) (s : Int) : 0 ≤ mkH h s ∧ mkH h s ≤ 60 := by
  have h2 := szA_rng p0 s
  have := mkF_rng h (stA (szL h) s) (szA (szL h) s).toNat
  unfold mkH
  omega
/-- the first of three segments alike -/
def f3F (l : List Int) : Nat → Int → Int
  | 0, _ => -1
  | n + 1, i => if lvl (szA l (i + 1)) = lvl (szA l i) ∧ lvl (szA l (i + 2)) = lvl (szA l i) then i else f3F l n (i + 1)
def f3 (l : List Int) : Int := f3F l (l.length - 2) 0
theorem f3F_rng (l : List Int) : ∀ (n : Nat) (i : Int), 0 ≤ i → f3F l n i = -1 ∨ (i ≤ f3F l n i ∧ f3F l n i < i + n)
  | 0, i, _ => Or.inl rfl
  | n + 1, i, h0 => by
    unfold f3F
    split
    · exact Or.inr ⟨by omega, by omega⟩
    · rcases f3F_rng l n (i + 1) (by omega) with z | z
      · exact Or.inl z
      · exact Or.inr ⟨by omega, by omega⟩
theorem p_Store_firstOfThreeAlike {G : XG} {d : Nat} {h : XH} {Q : XV → XH → Prop} {X : Nat → XH → Prop} (F : xFix h) (p0 : stok h) (hq : Q (xI (f3 (szL h))) h) : xwp G m_Store_firstOfThreeAlike (d + 3) 0 [xR 5, xZ, xZ] [] h Q X := by
  have hl := szL_len h
  have hp := p0.2.2.2.2.1
  have loop : ∀ (n : Nat) (i : Int), 0 ≤ i → (i + n = xpl h 5 4 - 2 ∨ (n = 0 ∧ xpl h 5 4 - 2 ≤ i)) → i ≤ 60 → Q (xI (f3F (szL h) n i)) h → xwp G m_Store_firstOfThreeAlike (d + 3) 2 [xR 5, xI i, xZ] [] h Q X := by
    intro n
    induction n with
    | zero =>
      intro i i0 i1 i2 hq
      refine v_Store_firstOfThreeAlike_2 F ?_
      refine ⟨?_, ?_⟩
      · first | exact p0 | exact ⟨by omega, by omega⟩
      · refine ⟨fun q1 => ?_, fun q1 => ?_⟩
        · exact hq
        · refine ⟨?_, ?_⟩
          · first | exact p0 | exact ⟨by omega, by omega⟩
          · refine ⟨fun q2 => ?_, fun q2 => ?_⟩
            · refine ⟨fun q3 => ?_, fun q3 => ?_⟩
              · omega
              · omega
            · omega
    | succ n ih =>
      intro i i0 i1 i2 hq
      unfold f3F at hq
      refine v_Store_firstOfThreeAlike_2 F ?_
      refine ⟨?_, ?_⟩
      · first | exact p0 | exact ⟨by omega, by omega⟩
      · refine ⟨fun q1 => ?_, fun q1 => ?_⟩
        · omega
        · refine ⟨?_, ?_⟩
          · first | exact p0 | exact ⟨by omega, by omega⟩
          · refine ⟨fun q2 => ?_, fun q2 => ?_⟩
            · refine ⟨fun q3 => ?_, fun q3 => ?_⟩
              · rw [if_pos ⟨q2, q3⟩] at hq; exact hq
              · rw [if_neg (fun z => q3 z.2)] at hq; exact ih _ (by omega) (by omega) (by omega) hq
            · rw [if_neg (fun z => q2 z.1)] at hq; exact ih _ (by omega) (by omega) (by omega) hq
  refine v_Store_firstOfThreeAlike_0 F ?_
  exact loop ((szL h).length - 2) 0 (by decide) (by omega) (by decide) hq
theorem f3_rng {h : XH} (p0 : stok h) : -1 ≤ f3 (szL h) ∧ f3 (szL h) ≤ xpl h 5 4 := by
  have hl := szL_len h
  have hp := p0.2.2.2.2.1
  have := f3F_rng (szL h) ((szL h).length - 2) 0 (by decide)
  unfold f3
  omega

end
