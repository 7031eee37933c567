/-! ===== text ===== -/
section
abbrev m_Text_row : XM := (⟨"BeaconIndex$Text", "row", "(I)[J"⟩, prog_10_method_2_code, 2, (some (.array .long)), [])
theorem d_Text_row_0 : decode prog_10_method_2_code 0 = .ok (.iload_n 1, 1) := by decide +kernel
theorem d_Text_row_1 : decode prog_10_method_2_code 1 = .ok (.ifCond .ne 10, 3) := by decide +kernel
theorem d_Text_row_11 : decode prog_10_method_2_code 11 = .ok (.aload_n 0, 1) := by decide +kernel
theorem d_Text_row_12 : decode prog_10_method_2_code 12 = .ok (.getfield 29, 3) := by decide +kernel
theorem w_129 : Cond.fieldLink "BeaconIndex$Text" 29 "BeaconIndex$Text" "body" "[J" ∈ lw_tbl := List.mem_append_right _ (List.mem_of_getElem? (i := 129) (by decide +kernel))
theorem d_Text_row_15 : decode prog_10_method_2_code 15 = .ok (.areturn, 1) := by decide +kernel
theorem d_Text_row_4 : decode prog_10_method_2_code 4 = .ok (.aload_n 0, 1) := by decide +kernel
theorem d_Text_row_5 : decode prog_10_method_2_code 5 = .ok (.getfield 25, 3) := by decide +kernel
theorem w_127 : Cond.fieldLink "BeaconIndex$Text" 25 "BeaconIndex$Text" "title" "[J" ∈ lw_tbl := List.mem_append_right _ (List.mem_of_getElem? (i := 127) (by decide +kernel))
theorem d_Text_row_8 : decode prog_10_method_2_code 8 = .ok (.goto 7, 3) := by decide +kernel
theorem v_Text_row_0 {G : XG} {d : Nat} {h : XH} {Q : XV → XH → Prop} {X : Nat → XH → Prop} {x0 x1 : Int} (F : xFix h) (hyp : ((x1 = 0 → xtg h x0 = 9 ∧ (Q (xR (xpl h x0 3)) h)) ∧ (¬ x1 = 0 → xtg h x0 = 9 ∧ (Q (xR (xpl h x0 4)) h)))) : xwp G m_Text_row (d + 1) 0 [xR x0, xI x1] [] h Q X := by
  have hnx9 : (93 : Int) ≤ xnx h := F.2.2
  refine xr_okL (fun hl9 => ?_)
  have r_x1 : -2147483648 ≤ x1 ∧ x1 ≤ 2147483647 := hl9 (xI x1) (.tail _ (.head _)) (Nat.le_of_ble_eq_true rfl)
  refine xr_iload_n (pc := 0) (i := 1) (hI := d_Text_row_0) (hi := rfl) (hl := rfl) ?_
  refine xr_if_ne (pc := 1) (tgt := 11) (hI := d_Text_row_1) (ht := by decide) (fun q9 => ?_) (fun q9 => ?_)
  · replace hyp := hyp.2 q9
    have q1_ := q9
    clear q9
    refine xr_aload_n (pc := 11) (i := 0) (hI := d_Text_row_11) (hi := rfl) (hl := rfl) ?_
    obtain ⟨c9, hyp⟩ := hyp
    have t2_ := c9
    clear c9
    refine xg_getf (pc := 12) (ci := 9) (k := 4) (N := 6) (v9 := 2) (v := (xpl h x0 4)) (T := xF9) (hI := d_Text_row_12) (hw := w_129) rfl xi9 (Or.inl rfl) (Nat.le_of_ble_eq_true rfl) (Nat.le_of_ble_eq_true rfl) rfl t2_ rfl (fun f3_ => ?_)
    clear f3_
    refine xr_areturn (S := []) (pc := 15) (hI := d_Text_row_15) (hr := rfl) (hrt := Or.inr ⟨_, rfl⟩) ?_
    exact hyp
  · replace hyp := hyp.1 q9
    have q1_ := q9
    clear q9
    refine xr_aload_n (pc := 4) (i := 0) (hI := d_Text_row_4) (hi := rfl) (hl := rfl) ?_
    obtain ⟨c9, hyp⟩ := hyp
    have t4_ := c9
    clear c9
    refine xg_getf (pc := 5) (ci := 9) (k := 3) (N := 6) (v9 := 2) (v := (xpl h x0 3)) (T := xF9) (hI := d_Text_row_5) (hw := w_127) rfl xi9 (Or.inl rfl) (Nat.le_of_ble_eq_true rfl) (Nat.le_of_ble_eq_true rfl) rfl t4_ rfl (fun f5_ => ?_)
    clear f5_
    refine xr_goto (pc := 8) (tgt := 15) (hI := d_Text_row_8) (ht := by decide) ?_
    refine xr_areturn (S := []) (pc := 15) (hI := d_Text_row_15) (hr := rfl) (hrt := Or.inr ⟨_, rfl⟩) ?_
    exact hyp
def txr (h : XH) (p f : Int) : Int := if f = 0 then xpl h p 3 else xpl h p 4
theorem p_Text_row {G : XG} {d : Nat} {h : XH} {Q : XV → XH → Prop} {X : Nat → XH → Prop} {p f : Int} (F : xFix h) (p0 : xtg h p = 9) (hq : Q (xR (txr h p f)) h) : xwp G m_Text_row (d + 1) 0 [xR p, xI f] [] h Q X := by
  unfold txr at hq
  refine v_Text_row_0 F ?_
  refine ⟨fun q1 => ?_, fun q1 => ?_⟩
  · refine ⟨?_, ?_⟩
    · exact p0
    · rw [if_pos q1] at hq; exact hq
  · refine ⟨?_, ?_⟩
    · exact p0
    · rw [if_neg q1] at hq; exact hq
abbrev m_Text_timesOf : XM := (⟨"BeaconIndex$Text", "timesOf", "(JI)I"⟩, prog_10_method_3_code, 7, (some .int), [])
theorem d_Text_timesOf_0 : decode prog_10_method_3_code 0 = .ok (.aload_n 0, 1) := by decide +kernel
theorem d_Text_timesOf_1 : decode prog_10_method_3_code 1 = .ok (.iload_n 3, 1) := by decide +kernel
theorem d_Text_timesOf_2 : decode prog_10_method_3_code 2 = .ok (.invokevirtual 32, 3) := by decide +kernel
theorem w_7 : Cond.initialized "BeaconIndex$Text" ∈ lw_tbl := List.mem_append_right _ (List.mem_of_getElem? (i := 7) (by decide +kernel))
theorem k_Text_row : xCal m_Text_row 1 := ⟨List.mem_append_right _ (List.mem_of_getElem? (i := 613) (by decide +kernel)), w_7, Nat.le_of_ble_eq_true rfl, ⟨by decide +kernel, by decide +kernel⟩, by decide +kernel, by decide +kernel, rfl⟩
theorem w_1223 : Cond.methodLink "BeaconIndex$Text" 32 ⟨"BeaconIndex$Text", "row", "(I)[J"⟩ ∈ lw_tbl := List.mem_append_right _ (List.mem_of_getElem? (i := 1223) (by decide +kernel))
theorem w_611 : Cond.instanceMethod ⟨"BeaconIndex$Text", "row", "(I)[J"⟩ ∈ lw_tbl := List.mem_append_right _ (List.mem_of_getElem? (i := 611) (by decide +kernel))
theorem w_612 : Cond.selects "BeaconIndex$Text" ⟨"BeaconIndex$Text", "row", "(I)[J"⟩ ⟨"BeaconIndex$Text", "row", "(I)[J"⟩ ∈ lw_tbl := List.mem_append_right _ (List.mem_of_getElem? (i := 612) (by decide +kernel))
theorem d_Text_timesOf_5 : decode prog_10_method_3_code 5 = .ok (.astore 4, 2) := by decide +kernel
theorem d_Text_timesOf_7 : decode prog_10_method_3_code 7 = .ok (.iconst 0, 1) := by decide +kernel
theorem d_Text_timesOf_8 : decode prog_10_method_3_code 8 = .ok (.istore 5, 2) := by decide +kernel
theorem d_Text_timesOf_10 : decode prog_10_method_3_code 10 = .ok (.iconst 0, 1) := by decide +kernel
theorem d_Text_timesOf_11 : decode prog_10_method_3_code 11 = .ok (.istore 6, 2) := by decide +kernel
theorem v_Text_timesOf_0 {G : XG} {d : Nat} {h : XH} {Q : XV → XH → Prop} {X : Nat → XH → Prop} {x0 x1 x3 : Int} (F : xFix h) (hyp : xtg h x0 = 9 ∧ (xwp G m_Text_timesOf (d + 2) 13 [xZ, xL x1, xZ, xZ, xR (txr h x0 x3), xI 0, xI 0] [] h Q X)) : xwp G m_Text_timesOf (d + 2) 0 [xR x0, xL x1, xZ, xI x3, xZ, xZ, xZ] [] h Q X := by
  have hnx9 : (93 : Int) ≤ xnx h := F.2.2
  refine xr_okL (fun hl9 => ?_)
  have r_x1 : -9223372036854775808 ≤ x1 ∧ x1 ≤ 9223372036854775807 := hl9 (xL x1) (.tail _ (.head _)) (Nat.le_of_ble_eq_true rfl)
  have r_x3 : -2147483648 ≤ x3 ∧ x3 ≤ 2147483647 := hl9 (xI x3) (.tail _ (.tail _ (.tail _ (.head _)))) (Nat.le_of_ble_eq_true rfl)
  refine xr_aload_n (pc := 0) (i := 0) (hI := d_Text_timesOf_0) (hi := rfl) (hl := rfl) ?_
  refine xr_iload_n (pc := 1) (i := 3) (hI := d_Text_timesOf_1) (hi := rfl) (hl := rfl) ?_
  obtain ⟨c9, hyp⟩ := hyp
  have t1_ := c9
  clear c9
  refine xq_callV (pc := 2) (index := 32) (K := m_Text_row) (As := [xI x3]) (S := []) (L0 := [xR x0, xI x3]) (hI := d_Text_timesOf_2) (hK := k_Text_row) (hlk := w_1223) (hnoM := rfl) (hS8 := Nat.le_of_ble_eq_true rfl) (ci := 9) (N := 6) (C := "BeaconIndex$Text") (T := xF9) (hc := rfl) (hci := Nat.le_of_ble_eq_true rfl) (htb := t1_) (hinst := w_611) (hsel := w_612) (hlen := Nat.le_of_ble_eq_true rfl) (hst := rfl) (hL0 := rfl)  (p_Text_row F t1_ ?_)
  show xwp G m_Text_timesOf (d + 2) 5 [xR x0, xL x1, xZ, xI x3, xZ, xZ, xZ] [xR (txr h x0 x3)] _ _ _
  refine xr_astore (pc := 5) (i := 4) (L9 := [xR x0, xL x1, xZ, xI x3, xR (txr h x0 x3), xZ, xZ]) (hI := d_Text_timesOf_5) (hn := Nat.le_of_ble_eq_true rfl) (hL9 := rfl) ?_
  refine xr_iconst (pc := 7) (hI := d_Text_timesOf_7) (hr := by decide) ?_
  refine xr_istore (pc := 8) (i := 5) (L9 := [xR x0, xL x1, xZ, xI x3, xR (txr h x0 x3), xI 0, xZ]) (hI := d_Text_timesOf_8) (hn := Nat.le_of_ble_eq_true rfl) (hL9 := rfl) ?_
  refine xr_iconst (pc := 10) (hI := d_Text_timesOf_10) (hr := by decide) ?_
  refine xr_istore (pc := 11) (i := 6) (L9 := [xR x0, xL x1, xZ, xI x3, xR (txr h x0 x3), xI 0, xI 0]) (hI := d_Text_timesOf_11) (hn := Nat.le_of_ble_eq_true rfl) (hL9 := rfl) ?_
  exact xr_drop (L9 := [xZ, xL x1, xZ, xZ, xR (txr h x0 x3), xI 0, xI 0]) (xdrz (xdrs (xdrs (xdrz (xdrs (xdrs (xdrs xdr0))))))) hyp
theorem d_Text_timesOf_13 : decode prog_10_method_3_code 13 = .ok (.iload 6, 2) := by decide +kernel
theorem d_Text_timesOf_15 : decode prog_10_method_3_code 15 = .ok (.aload 4, 2) := by decide +kernel
theorem d_Text_timesOf_17 : decode prog_10_method_3_code 17 = .ok (.arraylength, 1) := by decide +kernel
theorem d_Text_timesOf_18 : decode prog_10_method_3_code 18 = .ok (.if_icmp .ge 22, 3) := by decide +kernel
theorem d_Text_timesOf_40 : decode prog_10_method_3_code 40 = .ok (.iload 5, 2) := by decide +kernel
theorem d_Text_timesOf_42 : decode prog_10_method_3_code 42 = .ok (.ireturn, 1) := by decide +kernel
theorem d_Text_timesOf_21 : decode prog_10_method_3_code 21 = .ok (.aload 4, 2) := by decide +kernel
theorem d_Text_timesOf_23 : decode prog_10_method_3_code 23 = .ok (.iload 6, 2) := by decide +kernel
theorem d_Text_timesOf_25 : decode prog_10_method_3_code 25 = .ok (.laload, 1) := by decide +kernel
theorem d_Text_timesOf_26 : decode prog_10_method_3_code 26 = .ok (.lload_n 1, 1) := by decide +kernel
theorem d_Text_timesOf_27 : decode prog_10_method_3_code 27 = .ok (.lcmp, 1) := by decide +kernel
theorem d_Text_timesOf_28 : decode prog_10_method_3_code 28 = .ok (.ifCond .ne 6, 3) := by decide +kernel
theorem d_Text_timesOf_34 : decode prog_10_method_3_code 34 = .ok (.iinc 6 1, 3) := by decide +kernel
theorem d_Text_timesOf_37 : decode prog_10_method_3_code 37 = .ok (.goto (-24), 3) := by decide +kernel
theorem d_Text_timesOf_31 : decode prog_10_method_3_code 31 = .ok (.iinc 5 1, 3) := by decide +kernel
theorem v_Text_timesOf_13 {G : XG} {d : Nat} {h : XH} {Q : XV → XH → Prop} {X : Nat → XH → Prop} {x1 x4 x5 x6 : Int} (F : xFix h) (hyp : xtg h x4 = 101 ∧ (((xln h x4) ≤ x6 → (Q (xI x5) h)) ∧ (¬ (xln h x4) ≤ x6 → 0 ≤ x6 ∧ (((xpl h x4 x6) = x1 → xiR (x5 + 1) ∧ (xwp G m_Text_timesOf (d + 2) 13 [xZ, xL x1, xZ, xZ, xR x4, xI (x5 + 1), xI (x6 + 1)] [] h Q X)) ∧ (¬ (xpl h x4 x6) = x1 → (xwp G m_Text_timesOf (d + 2) 13 [xZ, xL x1, xZ, xZ, xR x4, xI x5, xI (x6 + 1)] [] h Q X)))))) : xwp G m_Text_timesOf (d + 2) 13 [xZ, xL x1, xZ, xZ, xR x4, xI x5, xI x6] [] h Q X := by
  have hnx9 : (93 : Int) ≤ xnx h := F.2.2
  refine xr_okL (fun hl9 => ?_)
  have r_x1 : -9223372036854775808 ≤ x1 ∧ x1 ≤ 9223372036854775807 := hl9 (xL x1) (.tail _ (.head _)) (Nat.le_of_ble_eq_true rfl)
  have r_x5 : -2147483648 ≤ x5 ∧ x5 ≤ 2147483647 := hl9 (xI x5) (.tail _ (.tail _ (.tail _ (.tail _ (.tail _ (.head _)))))) (Nat.le_of_ble_eq_true rfl)
  have r_x6 : -2147483648 ≤ x6 ∧ x6 ≤ 2147483647 := hl9 (xI x6) (.tail _ (.tail _ (.tail _ (.tail _ (.tail _ (.tail _ (.head _))))))) (Nat.le_of_ble_eq_true rfl)
  refine xr_iload (pc := 13) (i := 6) (hI := d_Text_timesOf_13) (hl := rfl) ?_
  refine xr_aload (pc := 15) (i := 4) (hI := d_Text_timesOf_15) (hl := rfl) ?_
  obtain ⟨c9, hyp⟩ := hyp
  have t1_ := c9
  clear c9
  refine xg_alen (pc := 17) (t := 101) (v := (xln h x4)) (hI := d_Text_timesOf_17) t1_ (Nat.le_of_ble_eq_true rfl) (Nat.le_of_ble_eq_true rfl) rfl rfl (fun f2_ f3_ => ?_)
  refine xr_icmp_ge (pc := 18) (tgt := 40) (hI := d_Text_timesOf_18) (ht := by decide) (fun q9 => ?_) (fun q9 => ?_)
  · replace hyp := hyp.1 q9
    have q4_ := q9
    clear q9
    refine xr_iload (pc := 40) (i := 5) (hI := d_Text_timesOf_40) (hl := rfl) ?_
    refine xr_ireturn (S := []) (pc := 42) (hI := d_Text_timesOf_42) (hr := rfl) ?_
    exact hyp
  · replace hyp := hyp.2 q9
    have q4_ := q9
    clear q9
    refine xr_aload (pc := 21) (i := 4) (hI := d_Text_timesOf_21) (hl := rfl) ?_
    refine xr_iload (pc := 23) (i := 6) (hI := d_Text_timesOf_23) (hl := rfl) ?_
    obtain ⟨c5_, hyp⟩ := hyp
    refine xg_laload (pc := 25) (v := (xpl h x4 x6)) (hI := d_Text_timesOf_25) t1_ c5_ (xlt_of rfl (by clear hyp; omega)) rfl (fun f6_ => ?_)
    replace f6_ : -9223372036854775808 ≤ (xpl h x4 x6) ∧ (xpl h x4 x6) ≤ 9223372036854775807 := f6_
    refine xr_lload_n (pc := 26) (i := 1) (hI := d_Text_timesOf_26) (hi := rfl) (hl := rfl) ?_
    refine xr_lcmp (pc := 27) (hI := d_Text_timesOf_27) ?_
    refine xg_lif_ne (pc := 28) (tgt := 34) (hI := d_Text_timesOf_28) (ht := by decide) (fun q9 => ?_) (fun q9 => ?_)
    · replace hyp := hyp.2 q9
      have q7_ := q9
      clear q9
      refine xr_iinc (pc := 34) (i := 6) (L9 := [xZ, xL x1, xZ, xZ, xR x4, xI x5, xI (x6 + 1)]) (hI := d_Text_timesOf_34) (hl := rfl) (hn := Nat.le_of_ble_eq_true rfl) (hr := ⟨by clear hyp; omega, by clear hyp; omega⟩) (hL9 := rfl) ?_
      refine xr_goto (pc := 37) (tgt := 13) (hI := d_Text_timesOf_37) (ht := by decide) ?_
      exact hyp
    · replace hyp := hyp.1 q9
      have q7_ := q9
      clear q9
      obtain ⟨c9, hyp⟩ := hyp
      refine xr_iinc (pc := 31) (i := 5) (L9 := [xZ, xL x1, xZ, xZ, xR x4, xI (x5 + 1), xI x6]) (hI := d_Text_timesOf_31) (hl := rfl) (hn := Nat.le_of_ble_eq_true rfl) (hr := c9) (hL9 := rfl) ?_
      refine xr_iinc (pc := 34) (i := 6) (L9 := [xZ, xL x1, xZ, xZ, xR x4, xI (x5 + 1), xI (x6 + 1)]) (hI := d_Text_timesOf_34) (hl := rfl) (hn := Nat.le_of_ble_eq_true rfl) (hr := ⟨by clear hyp; omega, by clear hyp; omega⟩) (hL9 := rfl) ?_
      refine xr_goto (pc := 37) (tgt := 13) (hI := d_Text_timesOf_37) (ht := by decide) ?_
      exact hyp
/-- a text that can be read -/
def txok (h : XH) (p : Int) : Prop := xtg h p = 9 ∧ xtg h (xpl h p 3) = 101 ∧ xtg h (xpl h p 4) = 101 ∧ (0 ≤ xln h (xpl h p 3) ∧ xln h (xpl h p 3) ≤ 200) ∧ 0 ≤ xln h (xpl h p 4) ∧ xln h (xpl h p 4) ≤ 200
theorem txok.row {h : XH} {p : Int} (e : txok h p) (f : Int) : xtg h (txr h p f) = 101 ∧ 0 ≤ xln h (txr h p f) ∧ xln h (txr h p f) ≤ 200 := by
  obtain ⟨-, e1, e2, e3, e4⟩ := e
  unfold txr
  split
  · exact ⟨e1, e3⟩
  · exact ⟨e2, e4⟩
def cntH (h : XH) (r w : Int) : Nat → Int
  | 0 => 0
  | k + 1 => cntH h r w k + (if xpl h r k = w then 1 else 0)
theorem cntH_rng (h : XH) (r w : Int) : ∀ k : Nat, 0 ≤ cntH h r w k ∧ cntH h r w k ≤ k
  | 0 => by simp [cntH]
  | k + 1 => by
    have := cntH_rng h r w k
    unfold cntH
    split <;> omega
/-- how often w stands in the row r -/
def cntR (h : XH) (r w : Int) : Int := cntH h r w (xln h r).toNat
theorem p_Text_timesOf {G : XG} {d : Nat} {h : XH} {Q : XV → XH → Prop} {X : Nat → XH → Prop} {p w f : Int} (F : xFix h) (p0 : txok h p) (hq : Q (xI (cntR h (txr h p f) w)) h) : xwp G m_Text_timesOf (d + 2) 0 [xR p, xL w, xZ, xI f, xZ, xZ, xZ] [] h Q X := by
  obtain ⟨r1, r2, r3⟩ := p0.row f
  have loop : ∀ (n k : Nat), k + n = (xln h (txr h p f)).toNat → xwp G m_Text_timesOf (d + 2) 13 [xZ, xL w, xZ, xZ, xR (txr h p f), xI (cntH h (txr h p f) w k), xI k] [] h Q X := by
    intro n
    induction n with
    | zero =>
      intro k k1
      have hk : k = (xln h (txr h p f)).toNat := k1
      refine v_Text_timesOf_13 F ?_
      refine ⟨?_, ?_⟩
      · first | exact r1 | omega
      · refine ⟨fun q1 => ?_, fun q1 => ?_⟩
        · rw [hk]; exact hq
        · refine ⟨?_, ?_⟩
          · first | exact r1 | omega
          · refine ⟨fun q2 => ?_, fun q2 => ?_⟩
            · refine ⟨?_, ?_⟩
              · first | exact r1 | omega
              · omega
            · omega
    | succ n ih =>
      intro k k1
      have hr := cntH_rng h (txr h p f) w k
      have ih2 := ih (k + 1) (by omega)
      unfold cntH at ih2
      refine v_Text_timesOf_13 F ?_
      refine ⟨?_, ?_⟩
      · first | exact r1 | omega | exact ⟨by omega, by omega⟩
      · refine ⟨fun q1 => ?_, fun q1 => ?_⟩
        · omega
        · refine ⟨?_, ?_⟩
          · first | exact r1 | omega | exact ⟨by omega, by omega⟩
          · refine ⟨fun q2 => ?_, fun q2 => ?_⟩
            · refine ⟨?_, ?_⟩
              · first | exact r1 | omega | exact ⟨by omega, by omega⟩
              · rw [if_pos q2] at ih2; exact ih2
            · rw [if_neg q2, Int.add_zero] at ih2; exact ih2
  refine v_Text_timesOf_0 F ?_
  refine ⟨?_, ?_⟩
  · exact p0.1
  · exact loop (xln h (txr h p f)).toNat 0 (by omega)
theorem cntR_rng {h : XH} {p : Int} (e : txok h p) (f w : Int) : 0 ≤ cntR h (txr h p f) w ∧ cntR h (txr h p f) w ≤ 200 := by
  have := e.row f
  have := cntH_rng h (txr h p f) w (xln h (txr h p f)).toNat
  unfold cntR
  omega
abbrev m_Text_wordCount : XM := (⟨"BeaconIndex$Text", "wordCount", "()I"⟩, prog_10_method_4_code, 2, (some .int), [])
theorem d_Text_wordCount_0 : decode prog_10_method_4_code 0 = .ok (.aload_n 0, 1) := by decide +kernel
theorem d_Text_wordCount_1 : decode prog_10_method_4_code 1 = .ok (.ldc2_w 36, 3) := by decide +kernel
theorem w_1395 : Cond.constantLong "BeaconIndex$Text" 36 (-1 : Int64) ∈ lw_tbl := List.mem_append_right _ (List.mem_of_getElem? (i := 1395) (by decide +kernel))
theorem d_Text_wordCount_4 : decode prog_10_method_4_code 4 = .ok (.iconst 0, 1) := by decide +kernel
theorem d_Text_wordCount_5 : decode prog_10_method_4_code 5 = .ok (.invokevirtual 38, 3) := by decide +kernel
theorem k_Text_timesOf : xCal m_Text_timesOf 2 := ⟨List.mem_append_right _ (List.mem_of_getElem? (i := 1222) (by decide +kernel)), w_7, Nat.le_of_ble_eq_true rfl, ⟨by decide +kernel, by decide +kernel⟩, by decide +kernel, by decide +kernel, rfl⟩
theorem w_1396 : Cond.methodLink "BeaconIndex$Text" 38 ⟨"BeaconIndex$Text", "timesOf", "(JI)I"⟩ ∈ lw_tbl := List.mem_append_right _ (List.mem_of_getElem? (i := 1396) (by decide +kernel))
theorem w_1220 : Cond.instanceMethod ⟨"BeaconIndex$Text", "timesOf", "(JI)I"⟩ ∈ lw_tbl := List.mem_append_right _ (List.mem_of_getElem? (i := 1220) (by decide +kernel))
theorem w_1221 : Cond.selects "BeaconIndex$Text" ⟨"BeaconIndex$Text", "timesOf", "(JI)I"⟩ ⟨"BeaconIndex$Text", "timesOf", "(JI)I"⟩ ∈ lw_tbl := List.mem_append_right _ (List.mem_of_getElem? (i := 1221) (by decide +kernel))
theorem d_Text_wordCount_8 : decode prog_10_method_4_code 8 = .ok (.aload_n 0, 1) := by decide +kernel
theorem d_Text_wordCount_9 : decode prog_10_method_4_code 9 = .ok (.ldc2_w 36, 3) := by decide +kernel
theorem d_Text_wordCount_12 : decode prog_10_method_4_code 12 = .ok (.iconst 1, 1) := by decide +kernel
theorem d_Text_wordCount_13 : decode prog_10_method_4_code 13 = .ok (.invokevirtual 38, 3) := by decide +kernel
theorem d_Text_wordCount_16 : decode prog_10_method_4_code 16 = .ok (.iadd, 1) := by decide +kernel
theorem d_Text_wordCount_17 : decode prog_10_method_4_code 17 = .ok (.istore_n 1, 1) := by decide +kernel
theorem d_Text_wordCount_18 : decode prog_10_method_4_code 18 = .ok (.aload_n 0, 1) := by decide +kernel
theorem d_Text_wordCount_19 : decode prog_10_method_4_code 19 = .ok (.getfield 25, 3) := by decide +kernel
theorem d_Text_wordCount_22 : decode prog_10_method_4_code 22 = .ok (.arraylength, 1) := by decide +kernel
theorem d_Text_wordCount_23 : decode prog_10_method_4_code 23 = .ok (.aload_n 0, 1) := by decide +kernel
theorem d_Text_wordCount_24 : decode prog_10_method_4_code 24 = .ok (.getfield 29, 3) := by decide +kernel
theorem d_Text_wordCount_27 : decode prog_10_method_4_code 27 = .ok (.arraylength, 1) := by decide +kernel
theorem d_Text_wordCount_28 : decode prog_10_method_4_code 28 = .ok (.iadd, 1) := by decide +kernel
theorem d_Text_wordCount_29 : decode prog_10_method_4_code 29 = .ok (.iload_n 1, 1) := by decide +kernel
theorem d_Text_wordCount_30 : decode prog_10_method_4_code 30 = .ok (.isub, 1) := by decide +kernel
theorem d_Text_wordCount_31 : decode prog_10_method_4_code 31 = .ok (.ireturn, 1) := by decide +kernel
theorem v_Text_wordCount_0 {G : XG} {d : Nat} {h : XH} {Q : XV → XH → Prop} {X : Nat → XH → Prop} {x0 : Int} (F : xFix h) (hyp : xtg h x0 = 9 ∧ txok h x0 ∧ xtg h (xpl h x0 3) = 101 ∧ xtg h (xpl h x0 4) = 101 ∧ xiR ((xln h (xpl h x0 3)) + (xln h (xpl h x0 4))) ∧ (Q (xI (((xln h (xpl h x0 3)) + (xln h (xpl h x0 4))) - ((cntR h (txr h x0 0) (-1)) + (cntR h (txr h x0 1) (-1))))) h)) : xwp G m_Text_wordCount (d + 3) 0 [xR x0, xZ] [] h Q X := by
  have hnx9 : (93 : Int) ≤ xnx h := F.2.2
  refine xr_aload_n (pc := 0) (i := 0) (hI := d_Text_wordCount_0) (hi := rfl) (hl := rfl) ?_
  refine xr_ldc2 (pc := 1) (z := (-1)) (hI := d_Text_wordCount_1) (hw := w_1395) (hr := by decide) (hv := by decide) ?_
  refine xr_iconst (pc := 4) (hI := d_Text_wordCount_4) (hr := by decide) ?_
  obtain ⟨c9, hyp⟩ := hyp
  have t1_ := c9
  clear c9
  obtain ⟨c2_, hyp⟩ := hyp
  refine xq_callV (pc := 5) (index := 38) (K := m_Text_timesOf) (As := [xL (-1), xI 0]) (S := []) (L0 := [xR x0, xL (-1), xZ, xI 0, xZ, xZ, xZ]) (hI := d_Text_wordCount_5) (hK := k_Text_timesOf) (hlk := w_1396) (hnoM := rfl) (hS8 := Nat.le_of_ble_eq_true rfl) (ci := 9) (N := 6) (C := "BeaconIndex$Text") (T := xF9) (hc := rfl) (hci := Nat.le_of_ble_eq_true rfl) (htb := t1_) (hinst := w_1220) (hsel := w_1221) (hlen := Nat.le_of_ble_eq_true rfl) (hst := rfl) (hL0 := rfl)  (p_Text_timesOf F c2_ ?_)
  show xwp G m_Text_wordCount (d + 3) 8 [xR x0, xZ] [xI (cntR h (txr h x0 0) (-1))] _ _ _
  have f3_ : 0 ≤ (cntR h (txr h x0 0) (-1)) ∧ (cntR h (txr h x0 0) (-1)) ≤ 200 := cntR_rng c2_ _ _
  refine xr_aload_n (pc := 8) (i := 0) (hI := d_Text_wordCount_8) (hi := rfl) (hl := rfl) ?_
  refine xr_ldc2 (pc := 9) (z := (-1)) (hI := d_Text_wordCount_9) (hw := w_1395) (hr := by decide) (hv := by decide) ?_
  refine xr_iconst (pc := 12) (hI := d_Text_wordCount_12) (hr := by decide) ?_
  refine xq_callV (pc := 13) (index := 38) (K := m_Text_timesOf) (As := [xL (-1), xI 1]) (S := [xI (cntR h (txr h x0 0) (-1))]) (L0 := [xR x0, xL (-1), xZ, xI 1, xZ, xZ, xZ]) (hI := d_Text_wordCount_13) (hK := k_Text_timesOf) (hlk := w_1396) (hnoM := rfl) (hS8 := Nat.le_of_ble_eq_true rfl) (ci := 9) (N := 6) (C := "BeaconIndex$Text") (T := xF9) (hc := rfl) (hci := Nat.le_of_ble_eq_true rfl) (htb := t1_) (hinst := w_1220) (hsel := w_1221) (hlen := Nat.le_of_ble_eq_true rfl) (hst := rfl) (hL0 := rfl)  (p_Text_timesOf F c2_ ?_)
  show xwp G m_Text_wordCount (d + 3) 16 [xR x0, xZ] [xI (cntR h (txr h x0 1) (-1)), xI (cntR h (txr h x0 0) (-1))] _ _ _
  have f4_ : 0 ≤ (cntR h (txr h x0 1) (-1)) ∧ (cntR h (txr h x0 1) (-1)) ≤ 200 := cntR_rng c2_ _ _
  refine xr_iadd (pc := 16) (hI := d_Text_wordCount_16) (hr := ⟨by clear hyp; omega, by clear hyp; omega⟩) ?_
  refine xr_istore_n (pc := 17) (i := 1) (L9 := [xR x0, xI ((cntR h (txr h x0 0) (-1)) + (cntR h (txr h x0 1) (-1)))]) (hI := d_Text_wordCount_17) (hi := rfl) (hn := Nat.le_of_ble_eq_true rfl) (hL9 := rfl) ?_
  refine xr_aload_n (pc := 18) (i := 0) (hI := d_Text_wordCount_18) (hi := rfl) (hl := rfl) ?_
  refine xg_getf (pc := 19) (ci := 9) (k := 3) (N := 6) (v9 := 2) (v := (xpl h x0 3)) (T := xF9) (hI := d_Text_wordCount_19) (hw := w_127) rfl xi9 (Or.inl rfl) (Nat.le_of_ble_eq_true rfl) (Nat.le_of_ble_eq_true rfl) rfl t1_ rfl (fun f5_ => ?_)
  clear f5_
  obtain ⟨c9, hyp⟩ := hyp
  have t6_ := c9
  clear c9
  refine xg_alen (pc := 22) (t := 101) (v := (xln h (xpl h x0 3))) (hI := d_Text_wordCount_22) t6_ (Nat.le_of_ble_eq_true rfl) (Nat.le_of_ble_eq_true rfl) rfl rfl (fun f7_ f8_ => ?_)
  refine xr_aload_n (pc := 23) (i := 0) (hI := d_Text_wordCount_23) (hi := rfl) (hl := rfl) ?_
  refine xg_getf (pc := 24) (ci := 9) (k := 4) (N := 6) (v9 := 2) (v := (xpl h x0 4)) (T := xF9) (hI := d_Text_wordCount_24) (hw := w_129) rfl xi9 (Or.inl rfl) (Nat.le_of_ble_eq_true rfl) (Nat.le_of_ble_eq_true rfl) rfl t1_ rfl (fun f9_ => ?_)
  clear f9_
  obtain ⟨c9, hyp⟩ := hyp
  have t10_ := c9
  clear c9
  refine xg_alen (pc := 27) (t := 101) (v := (xln h (xpl h x0 4))) (hI := d_Text_wordCount_27) t10_ (Nat.le_of_ble_eq_true rfl) (Nat.le_of_ble_eq_true rfl) rfl rfl (fun f11_ f12_ => ?_)
  obtain ⟨c9, hyp⟩ := hyp
  refine xr_iadd (pc := 28) (hI := d_Text_wordCount_28) (hr := c9) ?_
  refine xr_iload_n (pc := 29) (i := 1) (hI := d_Text_wordCount_29) (hi := rfl) (hl := rfl) ?_
  refine xr_isub (pc := 30) (hI := d_Text_wordCount_30) (hr := ⟨by clear hyp; omega, by clear hyp; omega⟩) ?_
  refine xr_ireturn (S := []) (pc := 31) (hI := d_Text_wordCount_31) (hr := rfl) ?_
  exact hyp
theorem s_Text_wordCount {G : XG} {d : Nat} {h : XH} {Q : XV → XH → Prop} {X : Nat → XH → Prop} {p : Int} (F : xFix h) (p0 : txok h p) (hq : Q (xI (xln h (xpl h p 3) + xln h (xpl h p 4) - (cntR h (xpl h p 3) (-1) + cntR h (xpl h p 4) (-1)))) h) : xwp G m_Text_wordCount (d + 3) 0 [xR p, xZ] [] h Q X := by
  refine v_Text_wordCount_0 F ?_
  refine ⟨?_, ?_⟩
  · first | exact p0.1 | exact p0 | exact p0.2.1 | exact p0.2.2.1 | (obtain ⟨-, -, -, e3, e4⟩ := p0; exact ⟨by omega, by omega⟩)
  · refine ⟨?_, ?_⟩
    · first | exact p0.1 | exact p0 | exact p0.2.1 | exact p0.2.2.1 | (obtain ⟨-, -, -, e3, e4⟩ := p0; exact ⟨by omega, by omega⟩)
    · refine ⟨?_, ?_⟩
      · first | exact p0.1 | exact p0 | exact p0.2.1 | exact p0.2.2.1 | (obtain ⟨-, -, -, e3, e4⟩ := p0; exact ⟨by omega, by omega⟩)
      · refine ⟨?_, ?_⟩
        · first | exact p0.1 | exact p0 | exact p0.2.1 | exact p0.2.2.1 | (obtain ⟨-, -, -, e3, e4⟩ := p0; exact ⟨by omega, by omega⟩)
        · refine ⟨?_, ?_⟩
          · first | exact p0.1 | exact p0 | exact p0.2.1 | exact p0.2.2.1 | (obtain ⟨-, -, -, e3, e4⟩ := p0; exact ⟨by omega, by omega⟩)
          · exact hq

end
