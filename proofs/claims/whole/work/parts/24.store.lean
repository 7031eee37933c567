/-! ===== store ===== -/
section
/-! abstractions of the heap as lists -/
def alL (h : XH) (a : Int) : List Int := (List.range (als h a).toNat).map (fun i => alg h a (i : Nat))
def rowL (h : XH) (r : Int) : List Int := (List.range (xln h r).toNat).map (fun i => xpl h r (i : Nat))
abbrev Txt : Type := Int × Int × Int × List Int × List Int
def textAt (h : XH) (p : Int) : Txt := (xpl h p 0, xpl h p 1, xpl h p 2, rowL h (xpl h p 3), rowL h (xpl h p 4))
def bufL (h : XH) : List Txt := (alL h 6).map (textAt h)
def filL (h : XH) : List (Txt × Bool) := (alL h 7).map (fun p => (textAt h p, decide (xpl h p 5 ≠ 0)))
def szL (h : XH) : List Int := (List.range (xpl h 5 4).toNat).map (fun i => xpl h 8 (i : Nat))
/-- the first place where p holds, -1 without one -/
def idxI {α : Type} (p : α → Bool) : List α → Int
  | [] => -1
  | a :: l => if p a = true then 0 else if idxI p l = -1 then -1 else idxI p l + 1
theorem idxI_rng {α : Type} (p : α → Bool) : ∀ l : List α, -1 ≤ idxI p l ∧ idxI p l < l.length
  | [] => by simp [idxI]
  | a :: l => by
    have := idxI_rng p l
    unfold idxI
    rw [List.length_cons]
    split
    · omega
    · split <;> omega
/-- the search from a place on -/
theorem idxI_drop {α : Type} (p : α → Bool) (l : List α) (i : Nat) (hi : i < l.length) (h : ∀ j : Nat, j < i → ∀ a, l[j]? = some a → ¬ p a = true) : (∀ a, l[i]? = some a → p a = true → idxI p l = i) := by
  induction l generalizing i with
  | nil => simp at hi
  | cons b l ih =>
    intro a ha hp
    unfold idxI
    cases i with
    | zero =>
      simp at ha
      subst ha
      rw [if_pos hp]; rfl
    | succ i =>
      have h0 := h 0 (by omega) b (by simp)
      rw [if_neg h0]
      have := ih i (by simpa using hi) (fun j hj a ha => h (j + 1) (by omega) a (by simpa using ha)) a (by simpa using ha) hp
      rw [this, if_neg (by omega)]
      omega
theorem idxI_none {α : Type} (p : α → Bool) (l : List α) (h : ∀ a ∈ l, ¬ p a = true) : idxI p l = -1 := by
  induction l with
  | nil => rfl
  | cons b l ih =>
    unfold idxI
    rw [if_neg (h b List.mem_cons_self), ih (fun a ha => h a (List.mem_cons_of_mem _ ha)), if_pos rfl]
def kidx (l : List Txt) (k : Int) : Int := idxI (fun t => decide (t.1 = k)) l
def sidx (l : List (Txt × Bool)) (k : Int) : Int := idxI (fun t => decide (t.1.1 = k) && !t.2) l
def szA (l : List Int) (s : Int) : Int := if s < 0 then 0 else (l[s.toNat]?).getD 0
theorem alL_len (h : XH) (a : Int) : (alL h a).length = (als h a).toNat := by unfold alL; simp
theorem alL_at {h : XH} {a : Int} {i : Nat} (hi : (i : Int) < als h a) : (alL h a)[i]? = some (alg h a i) := by
  unfold alL
  rw [List.getElem?_map, List.getElem?_range (by omega)]; rfl
theorem bufL_len (h : XH) : (bufL h).length = (als h 6).toNat := by unfold bufL; rw [List.length_map, alL_len]
theorem filL_len (h : XH) : (filL h).length = (als h 7).toNat := by unfold filL; rw [List.length_map, alL_len]
theorem bufL_at {h : XH} {i : Nat} (hi : (i : Int) < als h 6) : (bufL h)[i]? = some (textAt h (alg h 6 i)) := by unfold bufL; rw [List.getElem?_map, alL_at hi]; rfl
theorem filL_at {h : XH} {i : Nat} (hi : (i : Int) < als h 7) : (filL h)[i]? = some (textAt h (alg h 7 i), decide (xpl h (alg h 7 i) 5 ≠ 0)) := by unfold filL; rw [List.getElem?_map, alL_at hi]; rfl
theorem szL_len (h : XH) : (szL h).length = (xpl h 5 4).toNat := by unfold szL; simp
theorem szL_at {h : XH} {i : Nat} (hi : (i : Int) < xpl h 5 4) : (szL h)[i]? = some (xpl h 8 i) := by
  unfold szL
  rw [List.getElem?_map, List.getElem?_range (by omega)]; rfl
/-- the store can be read -/
def stok (h : XH) : Prop := alok h 6 ∧ alok h 7 ∧ (∀ i, 0 ≤ i → i < als h 6 → txok h (alg h 6 i)) ∧ (∀ i, 0 ≤ i → i < als h 7 → txok h (alg h 7 i)) ∧ (0 ≤ xpl h 5 4 ∧ xpl h 5 4 ≤ 60) ∧ (∀ i, 0 ≤ i → i < 60 → 0 ≤ xpl h 8 i ∧ xpl h 8 i ≤ 60) ∧ als h 6 ≤ 60 ∧ als h 7 ≤ 60
abbrev m_Store_textCount : XM := (⟨"BeaconIndex$Store", "textCount", "()I"⟩, prog_8_method_2_code, 1, (some .int), [])
theorem d_Store_textCount_0 : decode prog_8_method_2_code 0 = .ok (.aload_n 0, 1) := by decide +kernel
theorem d_Store_textCount_1 : decode prog_8_method_2_code 1 = .ok (.getfield 12, 3) := by decide +kernel
theorem w_148 : Cond.fieldLink "BeaconIndex$Store" 12 "BeaconIndex$Store" "buffer" "Ljava/util/ArrayList;" ∈ lw_tbl := List.mem_append_right _ (List.mem_of_getElem? (i := 148) (by decide +kernel))
theorem d_Store_textCount_4 : decode prog_8_method_2_code 4 = .ok (.invokevirtual 41, 3) := by decide +kernel
theorem k_ArrayList_size : xCal m_ArrayList_size 0 := ⟨List.mem_append_right _ (List.mem_of_getElem? (i := 467) (by decide +kernel)), w_6, Nat.le_of_ble_eq_true rfl, ⟨by decide +kernel, by decide +kernel⟩, by decide +kernel, by decide +kernel, rfl⟩
theorem w_464 : Cond.methodLink "BeaconIndex$Store" 41 ⟨"java/util/ArrayList", "size", "()I"⟩ ∈ lw_tbl := List.mem_append_right _ (List.mem_of_getElem? (i := 464) (by decide +kernel))
theorem w_465 : Cond.instanceMethod ⟨"java/util/ArrayList", "size", "()I"⟩ ∈ lw_tbl := List.mem_append_right _ (List.mem_of_getElem? (i := 465) (by decide +kernel))
theorem w_466 : Cond.selects "java/util/ArrayList" ⟨"java/util/ArrayList", "size", "()I"⟩ ⟨"java/util/ArrayList", "size", "()I"⟩ ∈ lw_tbl := List.mem_append_right _ (List.mem_of_getElem? (i := 466) (by decide +kernel))
theorem d_Store_textCount_7 : decode prog_8_method_2_code 7 = .ok (.aload_n 0, 1) := by decide +kernel
theorem d_Store_textCount_8 : decode prog_8_method_2_code 8 = .ok (.getfield 18, 3) := by decide +kernel
theorem w_150 : Cond.fieldLink "BeaconIndex$Store" 18 "BeaconIndex$Store" "filed" "Ljava/util/ArrayList;" ∈ lw_tbl := List.mem_append_right _ (List.mem_of_getElem? (i := 150) (by decide +kernel))
theorem d_Store_textCount_11 : decode prog_8_method_2_code 11 = .ok (.invokevirtual 41, 3) := by decide +kernel
theorem d_Store_textCount_14 : decode prog_8_method_2_code 14 = .ok (.iadd, 1) := by decide +kernel
theorem d_Store_textCount_15 : decode prog_8_method_2_code 15 = .ok (.ireturn, 1) := by decide +kernel
theorem v_Store_textCount_0 {G : XG} {d : Nat} {h : XH} {Q : XV → XH → Prop} {X : Nat → XH → Prop} (F : xFix h) (p0 : stok h) (hyp : (Q (xI ((als h 6) + (als h 7))) h)) : xwp G m_Store_textCount (d + 2) 0 [xR 5] [] h Q X := by
  have hnx9 : (93 : Int) ≤ xnx h := F.2.2
  refine xr_aload_n (pc := 0) (i := 0) (hI := d_Store_textCount_0) (hi := rfl) (hl := rfl) ?_
  refine xg_getf (pc := 1) (ci := 7) (k := 0) (N := 6) (v9 := 2) (v := 6) (T := xF7) (hI := d_Store_textCount_1) (hw := w_148) rfl xi7 (Or.inl rfl) (Nat.le_of_ble_eq_true rfl) (Nat.le_of_ble_eq_true rfl) rfl (ft_5 F) (fp_5_0 F) (fun f1_ => ?_)
  clear f1_
  refine xq_callV (pc := 4) (index := 41) (K := m_ArrayList_size) (As := []) (S := []) (L0 := [xR 6]) (hI := d_Store_textCount_4) (hK := k_ArrayList_size) (hlk := w_464) (hnoM := rfl) (hS8 := Nat.le_of_ble_eq_true rfl) (ci := 13) (N := 3) (C := "java/util/ArrayList") (T := xF13) (hc := rfl) (hci := Nat.le_of_ble_eq_true rfl) (htb := (ft_6 F)) (hinst := w_465) (hsel := w_466) (hlen := Nat.le_of_ble_eq_true rfl) (hst := rfl) (hL0 := rfl)  (p_AL_size F p0.1 ?_)
  show xwp G m_Store_textCount (d + 2) 7 [xR 5] [xI (als h 6)] _ _ _
  have f2_ : 0 ≤ (als h 6) ∧ (als h 6) ≤ 1000000 := ⟨p0.1.2.2.1, p0.1.2.2.2.2⟩
  refine xr_aload_n (pc := 7) (i := 0) (hI := d_Store_textCount_7) (hi := rfl) (hl := rfl) ?_
  refine xg_getf (pc := 8) (ci := 7) (k := 1) (N := 6) (v9 := 2) (v := 7) (T := xF7) (hI := d_Store_textCount_8) (hw := w_150) rfl xi7 (Or.inl rfl) (Nat.le_of_ble_eq_true rfl) (Nat.le_of_ble_eq_true rfl) rfl (ft_5 F) (fp_5_1 F) (fun f3_ => ?_)
  clear f3_
  refine xq_callV (pc := 11) (index := 41) (K := m_ArrayList_size) (As := []) (S := [xI (als h 6)]) (L0 := [xR 7]) (hI := d_Store_textCount_11) (hK := k_ArrayList_size) (hlk := w_464) (hnoM := rfl) (hS8 := Nat.le_of_ble_eq_true rfl) (ci := 13) (N := 3) (C := "java/util/ArrayList") (T := xF13) (hc := rfl) (hci := Nat.le_of_ble_eq_true rfl) (htb := (ft_7 F)) (hinst := w_465) (hsel := w_466) (hlen := Nat.le_of_ble_eq_true rfl) (hst := rfl) (hL0 := rfl)  (p_AL_size F p0.2.1 ?_)
  show xwp G m_Store_textCount (d + 2) 14 [xR 5] [xI (als h 7), xI (als h 6)] _ _ _
  have f4_ : 0 ≤ (als h 7) ∧ (als h 7) ≤ 1000000 := ⟨p0.2.1.2.2.1, p0.2.1.2.2.2.2⟩
  refine xr_iadd (pc := 14) (hI := d_Store_textCount_14) (hr := ⟨by clear hyp; omega, by clear hyp; omega⟩) ?_
  refine xr_ireturn (S := []) (pc := 15) (hI := d_Store_textCount_15) (hr := rfl) ?_
  exact hyp
abbrev m_Store_filedAt : XM := (⟨"BeaconIndex$Store", "filedAt", "(I)LBeaconIndex$Text;"⟩, prog_8_method_3_code, 2, (some (.object "BeaconIndex$Text")), [])
theorem d_Store_filedAt_0 : decode prog_8_method_3_code 0 = .ok (.iload_n 1, 1) := by decide +kernel
theorem d_Store_filedAt_1 : decode prog_8_method_3_code 1 = .ok (.ifCond .lt 28, 3) := by decide +kernel
theorem d_Store_filedAt_29 : decode prog_8_method_3_code 29 = .ok (.aload_n 0, 1) := by decide +kernel
theorem d_Store_filedAt_30 : decode prog_8_method_3_code 30 = .ok (.getfield 30, 3) := by decide +kernel
theorem w_153 : Cond.fieldLink "BeaconIndex$Store" 30 "BeaconIndex$Store" "nothing" "LBeaconIndex$Text;" ∈ lw_tbl := List.mem_append_right _ (List.mem_of_getElem? (i := 153) (by decide +kernel))
theorem d_Store_filedAt_33 : decode prog_8_method_3_code 33 = .ok (.areturn, 1) := by decide +kernel
theorem d_Store_filedAt_4 : decode prog_8_method_3_code 4 = .ok (.iload_n 1, 1) := by decide +kernel
theorem d_Store_filedAt_5 : decode prog_8_method_3_code 5 = .ok (.aload_n 0, 1) := by decide +kernel
theorem d_Store_filedAt_6 : decode prog_8_method_3_code 6 = .ok (.getfield 18, 3) := by decide +kernel
theorem d_Store_filedAt_9 : decode prog_8_method_3_code 9 = .ok (.invokevirtual 41, 3) := by decide +kernel
theorem d_Store_filedAt_12 : decode prog_8_method_3_code 12 = .ok (.if_icmp .ge 17, 3) := by decide +kernel
theorem d_Store_filedAt_15 : decode prog_8_method_3_code 15 = .ok (.aload_n 0, 1) := by decide +kernel
theorem d_Store_filedAt_16 : decode prog_8_method_3_code 16 = .ok (.getfield 18, 3) := by decide +kernel
theorem d_Store_filedAt_19 : decode prog_8_method_3_code 19 = .ok (.iload_n 1, 1) := by decide +kernel
theorem d_Store_filedAt_20 : decode prog_8_method_3_code 20 = .ok (.invokevirtual 45, 3) := by decide +kernel
theorem k_ArrayList_get : xCal m_ArrayList_get 1 := ⟨List.mem_append_right _ (List.mem_of_getElem? (i := 471) (by decide +kernel)), w_6, Nat.le_of_ble_eq_true rfl, ⟨by decide +kernel, by decide +kernel⟩, by decide +kernel, by decide +kernel, rfl⟩
theorem w_468 : Cond.methodLink "BeaconIndex$Store" 45 ⟨"java/util/ArrayList", "get", "(I)Ljava/lang/Object;"⟩ ∈ lw_tbl := List.mem_append_right _ (List.mem_of_getElem? (i := 468) (by decide +kernel))
theorem w_469 : Cond.instanceMethod ⟨"java/util/ArrayList", "get", "(I)Ljava/lang/Object;"⟩ ∈ lw_tbl := List.mem_append_right _ (List.mem_of_getElem? (i := 469) (by decide +kernel))
theorem w_470 : Cond.selects "java/util/ArrayList" ⟨"java/util/ArrayList", "get", "(I)Ljava/lang/Object;"⟩ ⟨"java/util/ArrayList", "get", "(I)Ljava/lang/Object;"⟩ ∈ lw_tbl := List.mem_append_right _ (List.mem_of_getElem? (i := 470) (by decide +kernel))
theorem d_Store_filedAt_23 : decode prog_8_method_3_code 23 = .ok (.checkcast 25, 3) := by decide +kernel
theorem w_113 : Cond.classLink "BeaconIndex$Store" 25 "BeaconIndex$Text" ∈ lw_tbl := List.mem_append_right _ (List.mem_of_getElem? (i := 113) (by decide +kernel))
theorem d_Store_filedAt_26 : decode prog_8_method_3_code 26 = .ok (.goto 7, 3) := by decide +kernel
theorem v_Store_filedAt_0 {G : XG} {d : Nat} {h : XH} {Q : XV → XH → Prop} {X : Nat → XH → Prop} {x1 : Int} (F : xFix h) (p0 : stok h) (hyp : ((x1 < 0 → (Q (xR 9) h)) ∧ (¬ x1 < 0 → (((als h 7) ≤ x1 → (Q (xR 9) h)) ∧ (¬ (als h 7) ≤ x1 → xtg h (alg h 7 x1) = 9 ∧ (Q (xR (alg h 7 x1)) h)))))) : xwp G m_Store_filedAt (d + 4) 0 [xR 5, xI x1] [] h Q X := by
  have hnx9 : (93 : Int) ≤ xnx h := F.2.2
  refine xr_okL (fun hl9 => ?_)
  have r_x1 : -2147483648 ≤ x1 ∧ x1 ≤ 2147483647 := hl9 (xI x1) (.tail _ (.head _)) (Nat.le_of_ble_eq_true rfl)
  refine xr_iload_n (pc := 0) (i := 1) (hI := d_Store_filedAt_0) (hi := rfl) (hl := rfl) ?_
  refine xr_if_lt (pc := 1) (tgt := 29) (hI := d_Store_filedAt_1) (ht := by decide) (fun q9 => ?_) (fun q9 => ?_)
  · replace hyp := hyp.1 q9
    have q1_ := q9
    clear q9
    refine xr_aload_n (pc := 29) (i := 0) (hI := d_Store_filedAt_29) (hi := rfl) (hl := rfl) ?_
    refine xg_getf (pc := 30) (ci := 7) (k := 3) (N := 6) (v9 := 2) (v := 9) (T := xF7) (hI := d_Store_filedAt_30) (hw := w_153) rfl xi7 (Or.inl rfl) (Nat.le_of_ble_eq_true rfl) (Nat.le_of_ble_eq_true rfl) rfl (ft_5 F) (fp_5_3 F) (fun f2_ => ?_)
    clear f2_
    refine xr_areturn (S := []) (pc := 33) (hI := d_Store_filedAt_33) (hr := rfl) (hrt := Or.inl ⟨_, rfl⟩) ?_
    exact hyp
  · replace hyp := hyp.2 q9
    have q1_ := q9
    clear q9
    refine xr_iload_n (pc := 4) (i := 1) (hI := d_Store_filedAt_4) (hi := rfl) (hl := rfl) ?_
    refine xr_aload_n (pc := 5) (i := 0) (hI := d_Store_filedAt_5) (hi := rfl) (hl := rfl) ?_
    refine xg_getf (pc := 6) (ci := 7) (k := 1) (N := 6) (v9 := 2) (v := 7) (T := xF7) (hI := d_Store_filedAt_6) (hw := w_150) rfl xi7 (Or.inl rfl) (Nat.le_of_ble_eq_true rfl) (Nat.le_of_ble_eq_true rfl) rfl (ft_5 F) (fp_5_1 F) (fun f3_ => ?_)
    clear f3_
    refine xq_callV (pc := 9) (index := 41) (K := m_ArrayList_size) (As := []) (S := [xI x1]) (L0 := [xR 7]) (hI := d_Store_filedAt_9) (hK := k_ArrayList_size) (hlk := w_464) (hnoM := rfl) (hS8 := Nat.le_of_ble_eq_true rfl) (ci := 13) (N := 3) (C := "java/util/ArrayList") (T := xF13) (hc := rfl) (hci := Nat.le_of_ble_eq_true rfl) (htb := (ft_7 F)) (hinst := w_465) (hsel := w_466) (hlen := Nat.le_of_ble_eq_true rfl) (hst := rfl) (hL0 := rfl)  (p_AL_size F p0.2.1 ?_)
    show xwp G m_Store_filedAt (d + 4) 12 [xR 5, xI x1] [xI (als h 7), xI x1] _ _ _
    have f4_ : 0 ≤ (als h 7) ∧ (als h 7) ≤ 1000000 := ⟨p0.2.1.2.2.1, p0.2.1.2.2.2.2⟩
    refine xr_icmp_ge (pc := 12) (tgt := 29) (hI := d_Store_filedAt_12) (ht := by decide) (fun q9 => ?_) (fun q9 => ?_)
    · replace hyp := hyp.1 q9
      have q5_ := q9
      clear q9
      refine xr_aload_n (pc := 29) (i := 0) (hI := d_Store_filedAt_29) (hi := rfl) (hl := rfl) ?_
      refine xg_getf (pc := 30) (ci := 7) (k := 3) (N := 6) (v9 := 2) (v := 9) (T := xF7) (hI := d_Store_filedAt_30) (hw := w_153) rfl xi7 (Or.inl rfl) (Nat.le_of_ble_eq_true rfl) (Nat.le_of_ble_eq_true rfl) rfl (ft_5 F) (fp_5_3 F) (fun f6_ => ?_)
      clear f6_
      refine xr_areturn (S := []) (pc := 33) (hI := d_Store_filedAt_33) (hr := rfl) (hrt := Or.inl ⟨_, rfl⟩) ?_
      exact hyp
    · replace hyp := hyp.2 q9
      have q5_ := q9
      clear q9
      refine xr_aload_n (pc := 15) (i := 0) (hI := d_Store_filedAt_15) (hi := rfl) (hl := rfl) ?_
      refine xg_getf (pc := 16) (ci := 7) (k := 1) (N := 6) (v9 := 2) (v := 7) (T := xF7) (hI := d_Store_filedAt_16) (hw := w_150) rfl xi7 (Or.inl rfl) (Nat.le_of_ble_eq_true rfl) (Nat.le_of_ble_eq_true rfl) rfl (ft_5 F) (fp_5_1 F) (fun f7_ => ?_)
      clear f7_
      refine xr_iload_n (pc := 19) (i := 1) (hI := d_Store_filedAt_19) (hi := rfl) (hl := rfl) ?_
      refine xq_callV (pc := 20) (index := 45) (K := m_ArrayList_get) (As := [xI x1]) (S := []) (L0 := [xR 7, xI x1]) (hI := d_Store_filedAt_20) (hK := k_ArrayList_get) (hlk := w_468) (hnoM := rfl) (hS8 := Nat.le_of_ble_eq_true rfl) (ci := 13) (N := 3) (C := "java/util/ArrayList") (T := xF13) (hc := rfl) (hci := Nat.le_of_ble_eq_true rfl) (htb := (ft_7 F)) (hinst := w_469) (hsel := w_470) (hlen := Nat.le_of_ble_eq_true rfl) (hst := rfl) (hL0 := rfl)  (p_AL_get F p0.2.1 (by clear hyp; omega) (by clear hyp; omega) ?_)
      show xwp G m_Store_filedAt (d + 4) 23 [xR 5, xI x1] [xR (alg h 7 x1)] _ _ _
      obtain ⟨c9, hyp⟩ := hyp
      have t8_ := c9
      clear c9
      refine xr_cast (pc := 23) (ci := 9) (T := xF9) (N := 6) (hI := d_Store_filedAt_23) w_113 rfl (Nat.le_of_ble_eq_true rfl) t8_ ?_
      refine xr_goto (pc := 26) (tgt := 33) (hI := d_Store_filedAt_26) (ht := by decide) ?_
      refine xr_areturn (S := []) (pc := 33) (hI := d_Store_filedAt_33) (hr := rfl) (hrt := Or.inl ⟨_, rfl⟩) ?_
      exact hyp
abbrev m_Store_placeInBuffer : XM := (⟨"BeaconIndex$Store", "placeInBuffer", "(I)I"⟩, prog_8_method_4_code, 3, (some .int), [])
theorem d_Store_placeInBuffer_0 : decode prog_8_method_4_code 0 = .ok (.iconst 0, 1) := by decide +kernel
theorem d_Store_placeInBuffer_1 : decode prog_8_method_4_code 1 = .ok (.istore_n 2, 1) := by decide +kernel
theorem v_Store_placeInBuffer_0 {G : XG} {d : Nat} {h : XH} {Q : XV → XH → Prop} {X : Nat → XH → Prop} {x1 : Int} (F : xFix h) (hyp : (xwp G m_Store_placeInBuffer (d + 4) 2 [xR 5, xI x1, xI 0] [] h Q X)) : xwp G m_Store_placeInBuffer (d + 4) 0 [xR 5, xI x1, xZ] [] h Q X := by
  have hnx9 : (93 : Int) ≤ xnx h := F.2.2
  refine xr_okL (fun hl9 => ?_)
  have r_x1 : -2147483648 ≤ x1 ∧ x1 ≤ 2147483647 := hl9 (xI x1) (.tail _ (.head _)) (Nat.le_of_ble_eq_true rfl)
  refine xr_iconst (pc := 0) (hI := d_Store_placeInBuffer_0) (hr := by decide) ?_
  refine xr_istore_n (pc := 1) (i := 2) (L9 := [xR 5, xI x1, xI 0]) (hI := d_Store_placeInBuffer_1) (hi := rfl) (hn := Nat.le_of_ble_eq_true rfl) (hL9 := rfl) ?_
  exact hyp
theorem d_Store_placeInBuffer_2 : decode prog_8_method_4_code 2 = .ok (.iload_n 2, 1) := by decide +kernel
theorem d_Store_placeInBuffer_3 : decode prog_8_method_4_code 3 = .ok (.aload_n 0, 1) := by decide +kernel
theorem d_Store_placeInBuffer_4 : decode prog_8_method_4_code 4 = .ok (.getfield 12, 3) := by decide +kernel
theorem d_Store_placeInBuffer_7 : decode prog_8_method_4_code 7 = .ok (.invokevirtual 41, 3) := by decide +kernel
theorem d_Store_placeInBuffer_10 : decode prog_8_method_4_code 10 = .ok (.if_icmp .ge 29, 3) := by decide +kernel
theorem d_Store_placeInBuffer_39 : decode prog_8_method_4_code 39 = .ok (.iconst (-1), 1) := by decide +kernel
theorem d_Store_placeInBuffer_40 : decode prog_8_method_4_code 40 = .ok (.ireturn, 1) := by decide +kernel
theorem d_Store_placeInBuffer_13 : decode prog_8_method_4_code 13 = .ok (.aload_n 0, 1) := by decide +kernel
theorem d_Store_placeInBuffer_14 : decode prog_8_method_4_code 14 = .ok (.getfield 12, 3) := by decide +kernel
theorem d_Store_placeInBuffer_17 : decode prog_8_method_4_code 17 = .ok (.iload_n 2, 1) := by decide +kernel
theorem d_Store_placeInBuffer_18 : decode prog_8_method_4_code 18 = .ok (.invokevirtual 45, 3) := by decide +kernel
theorem d_Store_placeInBuffer_21 : decode prog_8_method_4_code 21 = .ok (.checkcast 25, 3) := by decide +kernel
theorem d_Store_placeInBuffer_24 : decode prog_8_method_4_code 24 = .ok (.getfield 49, 3) := by decide +kernel
theorem w_120 : Cond.fieldLink "BeaconIndex$Store" 49 "BeaconIndex$Text" "key" "I" ∈ lw_tbl := List.mem_append_right _ (List.mem_of_getElem? (i := 120) (by decide +kernel))
theorem d_Store_placeInBuffer_27 : decode prog_8_method_4_code 27 = .ok (.iload_n 1, 1) := by decide +kernel
theorem d_Store_placeInBuffer_28 : decode prog_8_method_4_code 28 = .ok (.if_icmp .ne 5, 3) := by decide +kernel
theorem d_Store_placeInBuffer_33 : decode prog_8_method_4_code 33 = .ok (.iinc 2 1, 3) := by decide +kernel
theorem d_Store_placeInBuffer_36 : decode prog_8_method_4_code 36 = .ok (.goto (-34), 3) := by decide +kernel
theorem d_Store_placeInBuffer_31 : decode prog_8_method_4_code 31 = .ok (.iload_n 2, 1) := by decide +kernel
theorem d_Store_placeInBuffer_32 : decode prog_8_method_4_code 32 = .ok (.ireturn, 1) := by decide +kernel
theorem v_Store_placeInBuffer_2 {G : XG} {d : Nat} {h : XH} {Q : XV → XH → Prop} {X : Nat → XH → Prop} {x1 x2 : Int} (F : xFix h) (hyp : alok h 6 ∧ (((als h 6) ≤ x2 → (Q (xI (-1)) h)) ∧ (¬ (als h 6) ≤ x2 → 0 ≤ x2 ∧ xtg h (alg h 6 x2) = 9 ∧ (((xpl h (alg h 6 x2) 0) = x1 → (Q (xI x2) h)) ∧ (¬ (xpl h (alg h 6 x2) 0) = x1 → (xwp G m_Store_placeInBuffer (d + 4) 2 [xR 5, xI x1, xI (x2 + 1)] [] h Q X)))))) : xwp G m_Store_placeInBuffer (d + 4) 2 [xR 5, xI x1, xI x2] [] h Q X := by
  have hnx9 : (93 : Int) ≤ xnx h := F.2.2
  refine xr_okL (fun hl9 => ?_)
  have r_x1 : -2147483648 ≤ x1 ∧ x1 ≤ 2147483647 := hl9 (xI x1) (.tail _ (.head _)) (Nat.le_of_ble_eq_true rfl)
  have r_x2 : -2147483648 ≤ x2 ∧ x2 ≤ 2147483647 := hl9 (xI x2) (.tail _ (.tail _ (.head _))) (Nat.le_of_ble_eq_true rfl)
  refine xr_iload_n (pc := 2) (i := 2) (hI := d_Store_placeInBuffer_2) (hi := rfl) (hl := rfl) ?_
  refine xr_aload_n (pc := 3) (i := 0) (hI := d_Store_placeInBuffer_3) (hi := rfl) (hl := rfl) ?_
  refine xg_getf (pc := 4) (ci := 7) (k := 0) (N := 6) (v9 := 2) (v := 6) (T := xF7) (hI := d_Store_placeInBuffer_4) (hw := w_148) rfl xi7 (Or.inl rfl) (Nat.le_of_ble_eq_true rfl) (Nat.le_of_ble_eq_true rfl) rfl (ft_5 F) (fp_5_0 F) (fun f1_ => ?_)
  clear f1_
  obtain ⟨c2_, hyp⟩ := hyp
  refine xq_callV (pc := 7) (index := 41) (K := m_ArrayList_size) (As := []) (S := [xI x2]) (L0 := [xR 6]) (hI := d_Store_placeInBuffer_7) (hK := k_ArrayList_size) (hlk := w_464) (hnoM := rfl) (hS8 := Nat.le_of_ble_eq_true rfl) (ci := 13) (N := 3) (C := "java/util/ArrayList") (T := xF13) (hc := rfl) (hci := Nat.le_of_ble_eq_true rfl) (htb := (ft_6 F)) (hinst := w_465) (hsel := w_466) (hlen := Nat.le_of_ble_eq_true rfl) (hst := rfl) (hL0 := rfl)  (p_AL_size F c2_ ?_)
  show xwp G m_Store_placeInBuffer (d + 4) 10 [xR 5, xI x1, xI x2] [xI (als h 6), xI x2] _ _ _
  have f3_ : 0 ≤ (als h 6) ∧ (als h 6) ≤ 1000000 := ⟨c2_.2.2.1, c2_.2.2.2.2⟩
  refine xr_icmp_ge (pc := 10) (tgt := 39) (hI := d_Store_placeInBuffer_10) (ht := by decide) (fun q9 => ?_) (fun q9 => ?_)
  · replace hyp := hyp.1 q9
    have q4_ := q9
    clear q9
    refine xr_iconst (pc := 39) (hI := d_Store_placeInBuffer_39) (hr := by decide) ?_
    refine xr_ireturn (S := []) (pc := 40) (hI := d_Store_placeInBuffer_40) (hr := rfl) ?_
    exact hyp
  · replace hyp := hyp.2 q9
    have q4_ := q9
    clear q9
    refine xr_aload_n (pc := 13) (i := 0) (hI := d_Store_placeInBuffer_13) (hi := rfl) (hl := rfl) ?_
    refine xg_getf (pc := 14) (ci := 7) (k := 0) (N := 6) (v9 := 2) (v := 6) (T := xF7) (hI := d_Store_placeInBuffer_14) (hw := w_148) rfl xi7 (Or.inl rfl) (Nat.le_of_ble_eq_true rfl) (Nat.le_of_ble_eq_true rfl) rfl (ft_5 F) (fp_5_0 F) (fun f5_ => ?_)
    clear f5_
    refine xr_iload_n (pc := 17) (i := 2) (hI := d_Store_placeInBuffer_17) (hi := rfl) (hl := rfl) ?_
    obtain ⟨c6_, hyp⟩ := hyp
    refine xq_callV (pc := 18) (index := 45) (K := m_ArrayList_get) (As := [xI x2]) (S := []) (L0 := [xR 6, xI x2]) (hI := d_Store_placeInBuffer_18) (hK := k_ArrayList_get) (hlk := w_468) (hnoM := rfl) (hS8 := Nat.le_of_ble_eq_true rfl) (ci := 13) (N := 3) (C := "java/util/ArrayList") (T := xF13) (hc := rfl) (hci := Nat.le_of_ble_eq_true rfl) (htb := (ft_6 F)) (hinst := w_469) (hsel := w_470) (hlen := Nat.le_of_ble_eq_true rfl) (hst := rfl) (hL0 := rfl)  (p_AL_get F c2_ c6_ (by clear hyp; omega) ?_)
    show xwp G m_Store_placeInBuffer (d + 4) 21 [xR 5, xI x1, xI x2] [xR (alg h 6 x2)] _ _ _
    obtain ⟨c9, hyp⟩ := hyp
    have t7_ := c9
    clear c9
    refine xr_cast (pc := 21) (ci := 9) (T := xF9) (N := 6) (hI := d_Store_placeInBuffer_21) w_113 rfl (Nat.le_of_ble_eq_true rfl) t7_ ?_
    refine xg_getf (pc := 24) (ci := 9) (k := 0) (N := 6) (v9 := 0) (v := (xpl h (alg h 6 x2) 0)) (T := xF9) (hI := d_Store_placeInBuffer_24) (hw := w_120) rfl xi9 (Or.inl rfl) (Nat.le_of_ble_eq_true rfl) (Nat.le_of_ble_eq_true rfl) rfl t7_ rfl (fun f8_ => ?_)
    replace f8_ : -2147483648 ≤ (xpl h (alg h 6 x2) 0) ∧ (xpl h (alg h 6 x2) 0) ≤ 2147483647 := f8_
    refine xr_iload_n (pc := 27) (i := 1) (hI := d_Store_placeInBuffer_27) (hi := rfl) (hl := rfl) ?_
    refine xr_icmp_ne (pc := 28) (tgt := 33) (hI := d_Store_placeInBuffer_28) (ht := by decide) (fun q9 => ?_) (fun q9 => ?_)
    · replace hyp := hyp.2 q9
      have q9_ := q9
      clear q9
      refine xr_iinc (pc := 33) (i := 2) (L9 := [xR 5, xI x1, xI (x2 + 1)]) (hI := d_Store_placeInBuffer_33) (hl := rfl) (hn := Nat.le_of_ble_eq_true rfl) (hr := ⟨by clear hyp; omega, by clear hyp; omega⟩) (hL9 := rfl) ?_
      refine xr_goto (pc := 36) (tgt := 2) (hI := d_Store_placeInBuffer_36) (ht := by decide) ?_
      exact hyp
    · replace hyp := hyp.1 q9
      have q9_ := q9
      clear q9
      refine xr_iload_n (pc := 31) (i := 2) (hI := d_Store_placeInBuffer_31) (hi := rfl) (hl := rfl) ?_
      refine xr_ireturn (S := []) (pc := 32) (hI := d_Store_placeInBuffer_32) (hr := rfl) ?_
      exact hyp
abbrev m_Store_placeInSegments : XM := (⟨"BeaconIndex$Store", "placeInSegments", "(I)I"⟩, prog_8_method_5_code, 4, (some .int), [])
theorem d_Store_placeInSegments_0 : decode prog_8_method_5_code 0 = .ok (.iconst 0, 1) := by decide +kernel
theorem d_Store_placeInSegments_1 : decode prog_8_method_5_code 1 = .ok (.istore_n 2, 1) := by decide +kernel
theorem v_Store_placeInSegments_0 {G : XG} {d : Nat} {h : XH} {Q : XV → XH → Prop} {X : Nat → XH → Prop} {x1 : Int} (F : xFix h) (hyp : (xwp G m_Store_placeInSegments (d + 4) 2 [xR 5, xI x1, xI 0, xZ] [] h Q X)) : xwp G m_Store_placeInSegments (d + 4) 0 [xR 5, xI x1, xZ, xZ] [] h Q X := by
  have hnx9 : (93 : Int) ≤ xnx h := F.2.2
  refine xr_okL (fun hl9 => ?_)
  have r_x1 : -2147483648 ≤ x1 ∧ x1 ≤ 2147483647 := hl9 (xI x1) (.tail _ (.head _)) (Nat.le_of_ble_eq_true rfl)
  refine xr_iconst (pc := 0) (hI := d_Store_placeInSegments_0) (hr := by decide) ?_
  refine xr_istore_n (pc := 1) (i := 2) (L9 := [xR 5, xI x1, xI 0, xZ]) (hI := d_Store_placeInSegments_1) (hi := rfl) (hn := Nat.le_of_ble_eq_true rfl) (hL9 := rfl) ?_
  exact hyp
theorem d_Store_placeInSegments_2 : decode prog_8_method_5_code 2 = .ok (.iload_n 2, 1) := by decide +kernel
theorem d_Store_placeInSegments_3 : decode prog_8_method_5_code 3 = .ok (.aload_n 0, 1) := by decide +kernel
theorem d_Store_placeInSegments_4 : decode prog_8_method_5_code 4 = .ok (.getfield 18, 3) := by decide +kernel
theorem d_Store_placeInSegments_7 : decode prog_8_method_5_code 7 = .ok (.invokevirtual 41, 3) := by decide +kernel
theorem d_Store_placeInSegments_10 : decode prog_8_method_5_code 10 = .ok (.if_icmp .ge 38, 3) := by decide +kernel
theorem d_Store_placeInSegments_48 : decode prog_8_method_5_code 48 = .ok (.iconst (-1), 1) := by decide +kernel
theorem d_Store_placeInSegments_49 : decode prog_8_method_5_code 49 = .ok (.ireturn, 1) := by decide +kernel
theorem d_Store_placeInSegments_13 : decode prog_8_method_5_code 13 = .ok (.aload_n 0, 1) := by decide +kernel
theorem d_Store_placeInSegments_14 : decode prog_8_method_5_code 14 = .ok (.getfield 18, 3) := by decide +kernel
theorem d_Store_placeInSegments_17 : decode prog_8_method_5_code 17 = .ok (.iload_n 2, 1) := by decide +kernel
theorem d_Store_placeInSegments_18 : decode prog_8_method_5_code 18 = .ok (.invokevirtual 45, 3) := by decide +kernel
theorem d_Store_placeInSegments_21 : decode prog_8_method_5_code 21 = .ok (.checkcast 25, 3) := by decide +kernel
theorem d_Store_placeInSegments_24 : decode prog_8_method_5_code 24 = .ok (.astore_n 3, 1) := by decide +kernel
theorem d_Store_placeInSegments_25 : decode prog_8_method_5_code 25 = .ok (.aload_n 3, 1) := by decide +kernel
theorem d_Store_placeInSegments_26 : decode prog_8_method_5_code 26 = .ok (.getfield 49, 3) := by decide +kernel
theorem d_Store_placeInSegments_29 : decode prog_8_method_5_code 29 = .ok (.iload_n 1, 1) := by decide +kernel
theorem d_Store_placeInSegments_30 : decode prog_8_method_5_code 30 = .ok (.if_icmp .ne 12, 3) := by decide +kernel
theorem d_Store_placeInSegments_42 : decode prog_8_method_5_code 42 = .ok (.iinc 2 1, 3) := by decide +kernel
theorem d_Store_placeInSegments_45 : decode prog_8_method_5_code 45 = .ok (.goto (-43), 3) := by decide +kernel
theorem d_Store_placeInSegments_33 : decode prog_8_method_5_code 33 = .ok (.aload_n 3, 1) := by decide +kernel
theorem d_Store_placeInSegments_34 : decode prog_8_method_5_code 34 = .ok (.getfield 52, 3) := by decide +kernel
theorem w_132 : Cond.fieldLink "BeaconIndex$Store" 52 "BeaconIndex$Text" "marked" "Z" ∈ lw_tbl := List.mem_append_right _ (List.mem_of_getElem? (i := 132) (by decide +kernel))
theorem d_Store_placeInSegments_37 : decode prog_8_method_5_code 37 = .ok (.ifCond .ne 5, 3) := by decide +kernel
theorem d_Store_placeInSegments_40 : decode prog_8_method_5_code 40 = .ok (.iload_n 2, 1) := by decide +kernel
theorem d_Store_placeInSegments_41 : decode prog_8_method_5_code 41 = .ok (.ireturn, 1) := by decide +kernel
theorem v_Store_placeInSegments_2 {G : XG} {d : Nat} {h : XH} {Q : XV → XH → Prop} {X : Nat → XH → Prop} {x1 x2 : Int} (F : xFix h) (hyp : alok h 7 ∧ (((als h 7) ≤ x2 → (Q (xI (-1)) h)) ∧ (¬ (als h 7) ≤ x2 → 0 ≤ x2 ∧ xtg h (alg h 7 x2) = 9 ∧ (((xpl h (alg h 7 x2) 0) = x1 → (((xpl h (alg h 7 x2) 5) = 0 → (Q (xI x2) h)) ∧ (¬ (xpl h (alg h 7 x2) 5) = 0 → (xwp G m_Store_placeInSegments (d + 4) 2 [xR 5, xI x1, xI (x2 + 1), xZ] [] h Q X)))) ∧ (¬ (xpl h (alg h 7 x2) 0) = x1 → (xwp G m_Store_placeInSegments (d + 4) 2 [xR 5, xI x1, xI (x2 + 1), xZ] [] h Q X)))))) : xwp G m_Store_placeInSegments (d + 4) 2 [xR 5, xI x1, xI x2, xZ] [] h Q X := by
  have hnx9 : (93 : Int) ≤ xnx h := F.2.2
  refine xr_okL (fun hl9 => ?_)
  have r_x1 : -2147483648 ≤ x1 ∧ x1 ≤ 2147483647 := hl9 (xI x1) (.tail _ (.head _)) (Nat.le_of_ble_eq_true rfl)
  have r_x2 : -2147483648 ≤ x2 ∧ x2 ≤ 2147483647 := hl9 (xI x2) (.tail _ (.tail _ (.head _))) (Nat.le_of_ble_eq_true rfl)
  refine xr_iload_n (pc := 2) (i := 2) (hI := d_Store_placeInSegments_2) (hi := rfl) (hl := rfl) ?_
  refine xr_aload_n (pc := 3) (i := 0) (hI := d_Store_placeInSegments_3) (hi := rfl) (hl := rfl) ?_
  refine xg_getf (pc := 4) (ci := 7) (k := 1) (N := 6) (v9 := 2) (v := 7) (T := xF7) (hI := d_Store_placeInSegments_4) (hw := w_150) rfl xi7 (Or.inl rfl) (Nat.le_of_ble_eq_true rfl) (Nat.le_of_ble_eq_true rfl) rfl (ft_5 F) (fp_5_1 F) (fun f1_ => ?_)
  clear f1_
  obtain ⟨c2_, hyp⟩ := hyp
  refine xq_callV (pc := 7) (index := 41) (K := m_ArrayList_size) (As := []) (S := [xI x2]) (L0 := [xR 7]) (hI := d_Store_placeInSegments_7) (hK := k_ArrayList_size) (hlk := w_464) (hnoM := rfl) (hS8 := Nat.le_of_ble_eq_true rfl) (ci := 13) (N := 3) (C := "java/util/ArrayList") (T := xF13) (hc := rfl) (hci := Nat.le_of_ble_eq_true rfl) (htb := (ft_7 F)) (hinst := w_465) (hsel := w_466) (hlen := Nat.le_of_ble_eq_true rfl) (hst := rfl) (hL0 := rfl)  (p_AL_size F c2_ ?_)
  show xwp G m_Store_placeInSegments (d + 4) 10 [xR 5, xI x1, xI x2, xZ] [xI (als h 7), xI x2] _ _ _
  have f3_ : 0 ≤ (als h 7) ∧ (als h 7) ≤ 1000000 := ⟨c2_.2.2.1, c2_.2.2.2.2⟩
  refine xr_icmp_ge (pc := 10) (tgt := 48) (hI := d_Store_placeInSegments_10) (ht := by decide) (fun q9 => ?_) (fun q9 => ?_)
  · replace hyp := hyp.1 q9
    have q4_ := q9
    clear q9
    refine xr_iconst (pc := 48) (hI := d_Store_placeInSegments_48) (hr := by decide) ?_
    refine xr_ireturn (S := []) (pc := 49) (hI := d_Store_placeInSegments_49) (hr := rfl) ?_
    exact hyp
  · replace hyp := hyp.2 q9
    have q4_ := q9
    clear q9
    refine xr_aload_n (pc := 13) (i := 0) (hI := d_Store_placeInSegments_13) (hi := rfl) (hl := rfl) ?_
    refine xg_getf (pc := 14) (ci := 7) (k := 1) (N := 6) (v9 := 2) (v := 7) (T := xF7) (hI := d_Store_placeInSegments_14) (hw := w_150) rfl xi7 (Or.inl rfl) (Nat.le_of_ble_eq_true rfl) (Nat.le_of_ble_eq_true rfl) rfl (ft_5 F) (fp_5_1 F) (fun f5_ => ?_)
    clear f5_
    refine xr_iload_n (pc := 17) (i := 2) (hI := d_Store_placeInSegments_17) (hi := rfl) (hl := rfl) ?_
    obtain ⟨c6_, hyp⟩ := hyp
    refine xq_callV (pc := 18) (index := 45) (K := m_ArrayList_get) (As := [xI x2]) (S := []) (L0 := [xR 7, xI x2]) (hI := d_Store_placeInSegments_18) (hK := k_ArrayList_get) (hlk := w_468) (hnoM := rfl) (hS8 := Nat.le_of_ble_eq_true rfl) (ci := 13) (N := 3) (C := "java/util/ArrayList") (T := xF13) (hc := rfl) (hci := Nat.le_of_ble_eq_true rfl) (htb := (ft_7 F)) (hinst := w_469) (hsel := w_470) (hlen := Nat.le_of_ble_eq_true rfl) (hst := rfl) (hL0 := rfl)  (p_AL_get F c2_ c6_ (by clear hyp; omega) ?_)
    show xwp G m_Store_placeInSegments (d + 4) 21 [xR 5, xI x1, xI x2, xZ] [xR (alg h 7 x2)] _ _ _
    obtain ⟨c9, hyp⟩ := hyp
    have t7_ := c9
    clear c9
    refine xr_cast (pc := 21) (ci := 9) (T := xF9) (N := 6) (hI := d_Store_placeInSegments_21) w_113 rfl (Nat.le_of_ble_eq_true rfl) t7_ ?_
    refine xr_astore_n (pc := 24) (i := 3) (L9 := [xR 5, xI x1, xI x2, xR (alg h 7 x2)]) (hI := d_Store_placeInSegments_24) (hi := rfl) (hn := Nat.le_of_ble_eq_true rfl) (hL9 := rfl) ?_
    refine xr_aload_n (pc := 25) (i := 3) (hI := d_Store_placeInSegments_25) (hi := rfl) (hl := rfl) ?_
    refine xg_getf (pc := 26) (ci := 9) (k := 0) (N := 6) (v9 := 0) (v := (xpl h (alg h 7 x2) 0)) (T := xF9) (hI := d_Store_placeInSegments_26) (hw := w_120) rfl xi9 (Or.inl rfl) (Nat.le_of_ble_eq_true rfl) (Nat.le_of_ble_eq_true rfl) rfl t7_ rfl (fun f8_ => ?_)
    replace f8_ : -2147483648 ≤ (xpl h (alg h 7 x2) 0) ∧ (xpl h (alg h 7 x2) 0) ≤ 2147483647 := f8_
    refine xr_iload_n (pc := 29) (i := 1) (hI := d_Store_placeInSegments_29) (hi := rfl) (hl := rfl) ?_
    refine xr_icmp_ne (pc := 30) (tgt := 42) (hI := d_Store_placeInSegments_30) (ht := by decide) (fun q9 => ?_) (fun q9 => ?_)
    · replace hyp := hyp.2 q9
      have q9_ := q9
      clear q9
      refine xr_iinc (pc := 42) (i := 2) (L9 := [xR 5, xI x1, xI (x2 + 1), xR (alg h 7 x2)]) (hI := d_Store_placeInSegments_42) (hl := rfl) (hn := Nat.le_of_ble_eq_true rfl) (hr := ⟨by clear hyp; omega, by clear hyp; omega⟩) (hL9 := rfl) ?_
      refine xr_goto (pc := 45) (tgt := 2) (hI := d_Store_placeInSegments_45) (ht := by decide) ?_
      exact xr_drop (L9 := [xR 5, xI x1, xI (x2 + 1), xZ]) (xdrs (xdrs (xdrs (xdrz xdr0)))) hyp
    · replace hyp := hyp.1 q9
      have q9_ := q9
      clear q9
      refine xr_aload_n (pc := 33) (i := 3) (hI := d_Store_placeInSegments_33) (hi := rfl) (hl := rfl) ?_
      refine xg_getfZ (pc := 34) (ci := 9) (k := 5) (N := 6) (v := (xpl h (alg h 7 x2) 5)) (T := xF9) (hI := d_Store_placeInSegments_34) (hw := w_132) rfl xi9 (Or.inl rfl) (Nat.le_of_ble_eq_true rfl) (Nat.le_of_ble_eq_true rfl) rfl t7_ rfl (fun f10_ => ?_)
      refine xr_if_ne (pc := 37) (tgt := 42) (hI := d_Store_placeInSegments_37) (ht := by decide) (fun q9 => ?_) (fun q9 => ?_)
      · replace hyp := hyp.2 q9
        have q11_ := q9
        clear q9
        refine xr_iinc (pc := 42) (i := 2) (L9 := [xR 5, xI x1, xI (x2 + 1), xR (alg h 7 x2)]) (hI := d_Store_placeInSegments_42) (hl := rfl) (hn := Nat.le_of_ble_eq_true rfl) (hr := ⟨by clear hyp; omega, by clear hyp; omega⟩) (hL9 := rfl) ?_
        refine xr_goto (pc := 45) (tgt := 2) (hI := d_Store_placeInSegments_45) (ht := by decide) ?_
        exact xr_drop (L9 := [xR 5, xI x1, xI (x2 + 1), xZ]) (xdrs (xdrs (xdrs (xdrz xdr0)))) hyp
      · replace hyp := hyp.1 q9
        have q11_ := q9
        clear q9
        refine xr_iload_n (pc := 40) (i := 2) (hI := d_Store_placeInSegments_40) (hi := rfl) (hl := rfl) ?_
        refine xr_ireturn (S := []) (pc := 41) (hI := d_Store_placeInSegments_41) (hr := rfl) ?_
        exact hyp
abbrev m_Store_sizeOf : XM := (⟨"BeaconIndex$Store", "sizeOf", "(I)I"⟩, prog_8_method_7_code, 2, (some .int), [])
theorem d_Store_sizeOf_0 : decode prog_8_method_7_code 0 = .ok (.iload_n 1, 1) := by decide +kernel
theorem d_Store_sizeOf_1 : decode prog_8_method_7_code 1 = .ok (.ifCond .lt 29, 3) := by decide +kernel
theorem d_Store_sizeOf_30 : decode prog_8_method_7_code 30 = .ok (.iconst 0, 1) := by decide +kernel
theorem d_Store_sizeOf_31 : decode prog_8_method_7_code 31 = .ok (.ireturn, 1) := by decide +kernel
theorem d_Store_sizeOf_4 : decode prog_8_method_7_code 4 = .ok (.iload_n 1, 1) := by decide +kernel
theorem d_Store_sizeOf_5 : decode prog_8_method_7_code 5 = .ok (.aload_n 0, 1) := by decide +kernel
theorem d_Store_sizeOf_6 : decode prog_8_method_7_code 6 = .ok (.getfield 34, 3) := by decide +kernel
theorem w_154 : Cond.fieldLink "BeaconIndex$Store" 34 "BeaconIndex$Store" "segmentCount" "I" ∈ lw_tbl := List.mem_append_right _ (List.mem_of_getElem? (i := 154) (by decide +kernel))
theorem d_Store_sizeOf_9 : decode prog_8_method_7_code 9 = .ok (.if_icmp .ge 21, 3) := by decide +kernel
theorem d_Store_sizeOf_12 : decode prog_8_method_7_code 12 = .ok (.iload_n 1, 1) := by decide +kernel
theorem d_Store_sizeOf_13 : decode prog_8_method_7_code 13 = .ok (.aload_n 0, 1) := by decide +kernel
theorem d_Store_sizeOf_14 : decode prog_8_method_7_code 14 = .ok (.getfield 21, 3) := by decide +kernel
theorem w_152 : Cond.fieldLink "BeaconIndex$Store" 21 "BeaconIndex$Store" "sizes" "[I" ∈ lw_tbl := List.mem_append_right _ (List.mem_of_getElem? (i := 152) (by decide +kernel))
theorem d_Store_sizeOf_17 : decode prog_8_method_7_code 17 = .ok (.arraylength, 1) := by decide +kernel
theorem d_Store_sizeOf_18 : decode prog_8_method_7_code 18 = .ok (.if_icmp .ge 12, 3) := by decide +kernel
theorem d_Store_sizeOf_21 : decode prog_8_method_7_code 21 = .ok (.aload_n 0, 1) := by decide +kernel
theorem d_Store_sizeOf_22 : decode prog_8_method_7_code 22 = .ok (.getfield 21, 3) := by decide +kernel
theorem d_Store_sizeOf_25 : decode prog_8_method_7_code 25 = .ok (.iload_n 1, 1) := by decide +kernel
theorem d_Store_sizeOf_26 : decode prog_8_method_7_code 26 = .ok (.iaload, 1) := by decide +kernel
theorem d_Store_sizeOf_27 : decode prog_8_method_7_code 27 = .ok (.goto 4, 3) := by decide +kernel
theorem v_Store_sizeOf_0 {G : XG} {d : Nat} {h : XH} {Q : XV → XH → Prop} {X : Nat → XH → Prop} {x1 : Int} (F : xFix h) (hyp : ((x1 < 0 → (Q (xI 0) h)) ∧ (¬ x1 < 0 → (((xpl h 5 4) ≤ x1 → (Q (xI 0) h)) ∧ (¬ (xpl h 5 4) ≤ x1 → (((60 : Int) ≤ x1 → (Q (xI 0) h)) ∧ (¬ (60 : Int) ≤ x1 → (Q (xI (xpl h 8 x1)) h)))))))) : xwp G m_Store_sizeOf (d + 1) 0 [xR 5, xI x1] [] h Q X := by
  have hnx9 : (93 : Int) ≤ xnx h := F.2.2
  refine xr_okL (fun hl9 => ?_)
  have r_x1 : -2147483648 ≤ x1 ∧ x1 ≤ 2147483647 := hl9 (xI x1) (.tail _ (.head _)) (Nat.le_of_ble_eq_true rfl)
  refine xr_iload_n (pc := 0) (i := 1) (hI := d_Store_sizeOf_0) (hi := rfl) (hl := rfl) ?_
  refine xr_if_lt (pc := 1) (tgt := 30) (hI := d_Store_sizeOf_1) (ht := by decide) (fun q9 => ?_) (fun q9 => ?_)
  · replace hyp := hyp.1 q9
    have q1_ := q9
    clear q9
    refine xr_iconst (pc := 30) (hI := d_Store_sizeOf_30) (hr := by decide) ?_
    refine xr_ireturn (S := []) (pc := 31) (hI := d_Store_sizeOf_31) (hr := rfl) ?_
    exact hyp
  · replace hyp := hyp.2 q9
    have q1_ := q9
    clear q9
    refine xr_iload_n (pc := 4) (i := 1) (hI := d_Store_sizeOf_4) (hi := rfl) (hl := rfl) ?_
    refine xr_aload_n (pc := 5) (i := 0) (hI := d_Store_sizeOf_5) (hi := rfl) (hl := rfl) ?_
    refine xg_getf (pc := 6) (ci := 7) (k := 4) (N := 6) (v9 := 0) (v := (xpl h 5 4)) (T := xF7) (hI := d_Store_sizeOf_6) (hw := w_154) rfl xi7 (Or.inl rfl) (Nat.le_of_ble_eq_true rfl) (Nat.le_of_ble_eq_true rfl) rfl (ft_5 F) rfl (fun f2_ => ?_)
    replace f2_ : -2147483648 ≤ (xpl h 5 4) ∧ (xpl h 5 4) ≤ 2147483647 := f2_
    refine xr_icmp_ge (pc := 9) (tgt := 30) (hI := d_Store_sizeOf_9) (ht := by decide) (fun q9 => ?_) (fun q9 => ?_)
    · replace hyp := hyp.1 q9
      have q3_ := q9
      clear q9
      refine xr_iconst (pc := 30) (hI := d_Store_sizeOf_30) (hr := by decide) ?_
      refine xr_ireturn (S := []) (pc := 31) (hI := d_Store_sizeOf_31) (hr := rfl) ?_
      exact hyp
    · replace hyp := hyp.2 q9
      have q3_ := q9
      clear q9
      refine xr_iload_n (pc := 12) (i := 1) (hI := d_Store_sizeOf_12) (hi := rfl) (hl := rfl) ?_
      refine xr_aload_n (pc := 13) (i := 0) (hI := d_Store_sizeOf_13) (hi := rfl) (hl := rfl) ?_
      refine xg_getf (pc := 14) (ci := 7) (k := 2) (N := 6) (v9 := 2) (v := 8) (T := xF7) (hI := d_Store_sizeOf_14) (hw := w_152) rfl xi7 (Or.inl rfl) (Nat.le_of_ble_eq_true rfl) (Nat.le_of_ble_eq_true rfl) rfl (ft_5 F) (fp_5_2 F) (fun f4_ => ?_)
      clear f4_
      refine xg_alen (pc := 17) (t := 100) (v := 60) (hI := d_Store_sizeOf_17) (ft_8 F) (Nat.le_of_ble_eq_true rfl) (Nat.le_of_ble_eq_true rfl) rfl (fl_8 F) (fun f5_ f6_ => ?_)
      clear f5_ f6_
      refine xr_icmp_ge (pc := 18) (tgt := 30) (hI := d_Store_sizeOf_18) (ht := by decide) (fun q9 => ?_) (fun q9 => ?_)
      · replace hyp := hyp.1 q9
        have q7_ := q9
        clear q9
        refine xr_iconst (pc := 30) (hI := d_Store_sizeOf_30) (hr := by decide) ?_
        refine xr_ireturn (S := []) (pc := 31) (hI := d_Store_sizeOf_31) (hr := rfl) ?_
        exact hyp
      · replace hyp := hyp.2 q9
        have q7_ := q9
        clear q9
        refine xr_aload_n (pc := 21) (i := 0) (hI := d_Store_sizeOf_21) (hi := rfl) (hl := rfl) ?_
        refine xg_getf (pc := 22) (ci := 7) (k := 2) (N := 6) (v9 := 2) (v := 8) (T := xF7) (hI := d_Store_sizeOf_22) (hw := w_152) rfl xi7 (Or.inl rfl) (Nat.le_of_ble_eq_true rfl) (Nat.le_of_ble_eq_true rfl) rfl (ft_5 F) (fp_5_2 F) (fun f8_ => ?_)
        clear f8_
        refine xr_iload_n (pc := 25) (i := 1) (hI := d_Store_sizeOf_25) (hi := rfl) (hl := rfl) ?_
        refine xg_iaload (pc := 26) (v := (xpl h 8 x1)) (hI := d_Store_sizeOf_26) (ft_8 F) (by clear hyp; omega) (xlt_of (fl_8 F) (by clear hyp; omega)) rfl (fun f9_ => ?_)
        replace f9_ : -2147483648 ≤ (xpl h 8 x1) ∧ (xpl h 8 x1) ≤ 2147483647 := f9_
        refine xr_goto (pc := 27) (tgt := 31) (hI := d_Store_sizeOf_27) (ht := by decide) ?_
        refine xr_ireturn (S := []) (pc := 31) (hI := d_Store_sizeOf_31) (hr := rfl) ?_
        exact hyp

end
