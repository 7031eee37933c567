/-! ===== storew ===== -/
section
/-- a row that nobody writes -/
def RowOK (h : XH) (r : Int) (ws : List Int) : Prop := 93 ≤ r ∧ r < xnx h ∧ xpl h r (-1) = 0 ∧ RowR h r ws ∧ ws.length ≤ 200
/-- the text at p is t -/
def TxtR (h : XH) (p : Int) (t : Txt) : Prop := (93 ≤ p ∧ p < xnx h ∧ xtg h p = 9) ∧ (xpl h p 0 = t.1 ∧ xpl h p 1 = t.2.1 ∧ xpl h p 2 = t.2.2.1) ∧ RowOK h (xpl h p 3) t.2.2.2.1 ∧ RowOK h (xpl h p 4) t.2.2.2.2
def mkd (b : Bool) : Int := if b = true then 1 else 0
/-- the store: buffer, segments' texts, sizes, merges -/
def StoreR (h : XH) (bp fp : List Int) (b : List Txt) (f : List (Txt × Bool)) (z : List Int) (m : Int) : Prop :=
  (ALr h 6 bp ∧ ALr h 7 fp ∧ bp.length = b.length ∧ fp.length = f.length ∧ b.length ≤ 60 ∧ f.length ≤ 60) ∧
  (∀ (i : Nat) p t, bp[i]? = some p → b[i]? = some t → TxtR h p t ∧ xpl h p 5 = 0) ∧
  (∀ (i : Nat) p t, fp[i]? = some p → f[i]? = some t → TxtR h p t.1 ∧ xpl h p 5 = mkd t.2) ∧ (bp ++ fp).Nodup ∧
  (xpl h 5 4 = z.length ∧ z.length ≤ 60 ∧ (∀ i : Nat, i < z.length → z[i]? = some (xpl h 8 i)) ∧ ∀ i, 0 ≤ i → i < 60 → 0 ≤ xpl h 8 i ∧ xpl h 8 i ≤ 60) ∧ xpl h 5 5 = m
/-- the store's own cells -/
def STF (h : XH) : Int → Prop := fun c => c = 5 ∨ c = 8 ∨ ALC h 6 c ∨ ALC h 7 c ∨ xtg h c = 9 ∨ (xtg h c = 101 ∧ xpl h c (-1) = 0 ∧ 93 ≤ c)
/-- those of them that its methods write -/
def STW (h : XH) : Int → Prop := fun c => c = 5 ∨ c = 8 ∨ ALC h 6 c ∨ ALC h 7 c ∨ xtg h c = 9
theorem RowR.keep {h h' : XH} {r : Int} {ws : List Int} (R : RowR h r ws) (e1 : xtg h' r = xtg h r) (e2 : xln h' r = xln h r) (e3 : ∀ k, xpl h' r k = xpl h r k) : RowR h' r ws := ⟨e1.trans R.1, e2.trans R.2.1, fun i hi => by rw [e3]; exact R.2.2 i hi⟩
theorem RowOK.frame {C : Int → Prop} {h h' : XH} {r : Int} {ws : List Int} (R : RowOK h r ws) (e : xsm C h h') (hC : xtg h r = 101 → xpl h r (-1) = 0 → 93 ≤ r → ¬ C r) : RowOK h' r ws := by
  obtain ⟨h1, h2, h3, h4, h5⟩ := R
  have hn := hC h4.1 h3 h1
  exact ⟨h1, by have := e.1; omega, by rw [e.mkd h2]; exact h3, h4.keep (e.tg h2) (e.ln h2) (e.pl h2 hn), h5⟩
/-- a text stays, where its own cell's places 0 to 4 and its rows stay -/
theorem TxtR.frame {C : Int → Prop} {h h' : XH} {p : Int} {t : Txt} (R : TxtR h p t) (e : xsm C h h') (hp : ∀ k, 0 ≤ k → k < 5 → xpl h' p k = xpl h p k) (hC : ∀ r, xtg h r = 101 → xpl h r (-1) = 0 → 93 ≤ r → ¬ C r) : TxtR h' p t := by
  obtain ⟨⟨h1, h2, h3⟩, ⟨h4, h5, h6⟩, h7, h8⟩ := R
  refine ⟨⟨h1, by have := e.1; omega, by rw [e.tg h2]; exact h3⟩, ⟨by rw [hp 0 (by decide) (by decide)]; exact h4, by rw [hp 1 (by decide) (by decide)]; exact h5, by rw [hp 2 (by decide) (by decide)]; exact h6⟩, ?_, ?_⟩
  · rw [hp 3 (by decide) (by decide)]; exact h7.frame e (hC _)
  · rw [hp 4 (by decide) (by decide)]; exact h8.frame e (hC _)
theorem RowR.ls {h : XH} {r : Int} {ws : List Int} (R : RowR h r ws) : rowL h r = ws := by
  obtain ⟨-, h2, h3⟩ := R
  apply List.ext_getElem?
  intro i
  unfold rowL
  rw [h2, List.getElem?_map, show ((ws.length : Int)).toNat = ws.length by omega]
  by_cases hi : i < ws.length
  · rw [List.getElem?_range hi, h3 i hi]; rfl
  · rw [List.getElem?_eq_none (by rw [List.length_range]; omega), List.getElem?_eq_none (by omega)]; rfl
theorem TxtR.ok {h : XH} {p : Int} {t : Txt} (R : TxtR h p t) : txok h p := by
  obtain ⟨⟨h1, h2, h3⟩, -, ⟨-, -, -, a1, a2⟩, ⟨-, -, -, b1, b2⟩⟩ := R
  have := a1.2.1
  have := b1.2.1
  exact ⟨h3, a1.1, b1.1, ⟨by omega, by omega⟩, by omega, by omega⟩
theorem TxtR.ta {h : XH} {p : Int} {t : Txt} (R : TxtR h p t) : textAt h p = t := by
  obtain ⟨-, ⟨h4, h5, h6⟩, ⟨-, -, -, a1, -⟩, ⟨-, -, -, b1, -⟩⟩ := R
  unfold textAt
  rw [h4, h5, h6, a1.ls, b1.ls]
theorem ALr.ls {h : XH} {a : Int} {es : List Int} (R : ALr h a es) : alL h a = es := by
  apply List.ext_getElem?
  intro i
  have hs := R.sz
  by_cases hi : i < es.length
  · rw [alL_at (by omega), R.at hi]
  · rw [List.getElem?_eq_none (by rw [alL_len]; omega), List.getElem?_eq_none (by omega)]
theorem StoreR.ok {h : XH} {bp fp : List Int} {b : List Txt} {f : List (Txt × Bool)} {z : List Int} {m : Int} (R : StoreR h bp fp b f z m) : stok h := by
  obtain ⟨⟨a1, a2, a3, a4, a5, a6⟩, h1, h2, -, ⟨z1, z2, z3, z4⟩, -⟩ := R
  have s6 := a1.sz
  have s7 := a2.sz
  refine ⟨a1.ok, a2.ok, fun i i0 i1 => ?_, fun i i0 i1 => ?_, ⟨by omega, by omega⟩, z4, by omega, by omega⟩
  · have g := a1.get i0 (by omega)
    have hb : i.toNat < b.length := by omega
    exact (h1 _ _ _ g (List.getElem?_eq_getElem hb)).1.ok
  · have g := a2.get i0 (by omega)
    have hb : i.toNat < f.length := by omega
    exact (h2 _ _ _ g (List.getElem?_eq_getElem hb)).1.ok
theorem StoreR.eb {h : XH} {bp fp : List Int} {b : List Txt} {f : List (Txt × Bool)} {z : List Int} {m : Int} (R : StoreR h bp fp b f z m) : bufL h = b := by
  obtain ⟨⟨a1, a2, a3, a4, a5, a6⟩, h1, -⟩ := R
  apply List.ext_getElem?
  intro i
  unfold bufL
  rw [a1.ls, List.getElem?_map]
  by_cases hi : i < b.length
  · have hp : i < bp.length := by omega
    have := (h1 i _ _ (List.getElem?_eq_getElem hp) (List.getElem?_eq_getElem hi)).1.ta
    rw [List.getElem?_eq_getElem hp, List.getElem?_eq_getElem hi, Option.map_some, this]
  · rw [List.getElem?_eq_none (by omega), List.getElem?_eq_none (by omega)]; rfl
theorem StoreR.ef {h : XH} {bp fp : List Int} {b : List Txt} {f : List (Txt × Bool)} {z : List Int} {m : Int} (R : StoreR h bp fp b f z m) : filL h = f := by
  obtain ⟨⟨a1, a2, a3, a4, a5, a6⟩, -, h2, -⟩ := R
  apply List.ext_getElem?
  intro i
  unfold filL
  rw [a2.ls, List.getElem?_map]
  by_cases hi : i < f.length
  · have hp : i < fp.length := by omega
    have h9 := h2 i _ _ (List.getElem?_eq_getElem hp) (List.getElem?_eq_getElem hi)
    rw [List.getElem?_eq_getElem hp, List.getElem?_eq_getElem hi, Option.map_some, h9.1.ta, h9.2]
    congr 1
    cases hb : f[i].2 <;> simp [mkd, ← hb]
  · rw [List.getElem?_eq_none (by omega), List.getElem?_eq_none (by omega)]; rfl
theorem StoreR.ez {h : XH} {bp fp : List Int} {b : List Txt} {f : List (Txt × Bool)} {z : List Int} {m : Int} (R : StoreR h bp fp b f z m) : szL h = z := by
  obtain ⟨-, -, -, -, ⟨z1, z2, z3, z4⟩, -⟩ := R
  apply List.ext_getElem?
  intro i
  by_cases hi : i < z.length
  · rw [szL_at (by omega), z3 i hi]
  · rw [List.getElem?_eq_none (by rw [szL_len]; omega), List.getElem?_eq_none (by omega)]
theorem STF.row {h : XH} {C : Int → Prop} (hC : ∀ c, STF h c → ¬ C c) : ∀ r, xtg h r = 101 → xpl h r (-1) = 0 → 93 ≤ r → ¬ C r := fun r a b c => hC r (Or.inr (Or.inr (Or.inr (Or.inr (Or.inr ⟨a, b, c⟩)))))
theorem StoreR.frame {C : Int → Prop} {h h' : XH} {bp fp : List Int} {b : List Txt} {f : List (Txt × Bool)} {z : List Int} {m : Int} (R : StoreR h bp fp b f z m) (F : xFix h) (e : xsm C h h') (hC : ∀ c, STF h c → ¬ C c) : StoreR h' bp fp b f z m := by
  have hnx := F.nx
  obtain ⟨⟨a1, a2, a3, a4, a5, a6⟩, h1, h2, h3, ⟨z1, z2, z3, z4⟩, z5⟩ := R
  have e5 := e.pl (a := 5) (by omega) (hC _ (Or.inl rfl))
  have e8 := e.pl (a := 8) (by omega) (hC _ (Or.inr (Or.inl rfl)))
  have ht : ∀ p t, TxtR h p t → TxtR h' p t ∧ xpl h' p 5 = xpl h p 5 := fun p t w => by
    have hp := e.pl w.1.2.1 (hC p (Or.inr (Or.inr (Or.inr (Or.inr (Or.inl w.1.2.2))))))
    exact ⟨w.frame e (fun k _ _ => hp k) (STF.row hC), hp 5⟩
  refine ⟨⟨a1.frame F e (fun c hc => hC c (Or.inr (Or.inr (Or.inl hc)))), a2.frame F e (fun c hc => hC c (Or.inr (Or.inr (Or.inr (Or.inl hc))))), a3, a4, a5, a6⟩, fun i p t w1 w2 => ?_, fun i p t w1 w2 => ?_, h3, ⟨by rw [e5]; exact z1, z2, fun i hi => by rw [e8]; exact z3 i hi, fun i i0 i1 => by rw [e8]; exact z4 i i0 i1⟩, by rw [e5]; exact z5⟩
  · obtain ⟨w3, w4⟩ := h1 i p t w1 w2
    obtain ⟨w5, w6⟩ := ht p t w3
    exact ⟨w5, w6.trans w4⟩
  · obtain ⟨w3, w4⟩ := h2 i p t w1 w2
    obtain ⟨w5, w6⟩ := ht p t.1 w3
    exact ⟨w5, w6.trans w4⟩
abbrev m_Store_drop : XM := (⟨"BeaconIndex$Store", "drop", "(I)Z"⟩, prog_8_method_6_code, 3, (some .boolean), [])
theorem d_Store_drop_0 : decode prog_8_method_6_code 0 = .ok (.aload_n 0, 1) := by decide +kernel
theorem d_Store_drop_1 : decode prog_8_method_6_code 1 = .ok (.iload_n 1, 1) := by decide +kernel
theorem d_Store_drop_2 : decode prog_8_method_6_code 2 = .ok (.invokevirtual 56, 3) := by decide +kernel
theorem k_Store_placeInBuffer : xCal m_Store_placeInBuffer 1 := ⟨List.mem_append_right _ (List.mem_of_getElem? (i := 1368) (by decide +kernel)), w_3, Nat.le_of_ble_eq_true rfl, ⟨by decide +kernel, by decide +kernel⟩, by decide +kernel, by decide +kernel, rfl⟩
theorem w_1388 : Cond.methodLink "BeaconIndex$Store" 56 ⟨"BeaconIndex$Store", "placeInBuffer", "(I)I"⟩ ∈ lw_tbl := List.mem_append_right _ (List.mem_of_getElem? (i := 1388) (by decide +kernel))
theorem w_1366 : Cond.instanceMethod ⟨"BeaconIndex$Store", "placeInBuffer", "(I)I"⟩ ∈ lw_tbl := List.mem_append_right _ (List.mem_of_getElem? (i := 1366) (by decide +kernel))
theorem w_1367 : Cond.selects "BeaconIndex$Store" ⟨"BeaconIndex$Store", "placeInBuffer", "(I)I"⟩ ⟨"BeaconIndex$Store", "placeInBuffer", "(I)I"⟩ ∈ lw_tbl := List.mem_append_right _ (List.mem_of_getElem? (i := 1367) (by decide +kernel))
theorem d_Store_drop_5 : decode prog_8_method_6_code 5 = .ok (.istore_n 2, 1) := by decide +kernel
theorem d_Store_drop_6 : decode prog_8_method_6_code 6 = .ok (.iload_n 2, 1) := by decide +kernel
theorem d_Store_drop_7 : decode prog_8_method_6_code 7 = .ok (.iconst (-1), 1) := by decide +kernel
theorem d_Store_drop_8 : decode prog_8_method_6_code 8 = .ok (.if_icmp .eq 12, 3) := by decide +kernel
theorem d_Store_drop_11 : decode prog_8_method_6_code 11 = .ok (.aload_n 0, 1) := by decide +kernel
theorem d_Store_drop_12 : decode prog_8_method_6_code 12 = .ok (.getfield 12, 3) := by decide +kernel
theorem d_Store_drop_15 : decode prog_8_method_6_code 15 = .ok (.iload_n 2, 1) := by decide +kernel
theorem d_Store_drop_16 : decode prog_8_method_6_code 16 = .ok (.invokevirtual 60, 3) := by decide +kernel
theorem k_ArrayList_remove : xCal m_ArrayList_remove 1 := ⟨List.mem_append_right _ (List.mem_of_getElem? (i := 584) (by decide +kernel)), w_6, Nat.le_of_ble_eq_true rfl, ⟨by decide +kernel, by decide +kernel⟩, by decide +kernel, by decide +kernel, rfl⟩
theorem w_581 : Cond.methodLink "BeaconIndex$Store" 60 ⟨"java/util/ArrayList", "remove", "(I)Ljava/lang/Object;"⟩ ∈ lw_tbl := List.mem_append_right _ (List.mem_of_getElem? (i := 581) (by decide +kernel))
theorem w_582 : Cond.instanceMethod ⟨"java/util/ArrayList", "remove", "(I)Ljava/lang/Object;"⟩ ∈ lw_tbl := List.mem_append_right _ (List.mem_of_getElem? (i := 582) (by decide +kernel))
theorem w_583 : Cond.selects "java/util/ArrayList" ⟨"java/util/ArrayList", "remove", "(I)Ljava/lang/Object;"⟩ ⟨"java/util/ArrayList", "remove", "(I)Ljava/lang/Object;"⟩ ∈ lw_tbl := List.mem_append_right _ (List.mem_of_getElem? (i := 583) (by decide +kernel))
theorem v_Store_drop_0 {G : XG} {d : Nat} {h : XH} {Q : XV → XH → Prop} {X : Nat → XH → Prop} {x1 : Int} (F : xFix h) (hyp : stok h ∧ (((kidx (bufL h) x1) = (-1) → (xwp G m_Store_drop (d + 5) 20 [xR 5, xI x1, xZ] [] h Q X)) ∧ (¬ (kidx (bufL h) x1) = (-1) → (xwp G m_ArrayList_remove (d + 4) 0 [xR 6, xI (kidx (bufL h) x1), xZ, xZ] [] h (fun v9 h9 => xwp G m_Store_drop (d + 5) 19 [xR 5, xI x1, xZ] (xpush v9 []) h9 Q X) X)))) : xwp G m_Store_drop (d + 5) 0 [xR 5, xI x1, xZ] [] h Q X := by
  have hnx9 : (93 : Int) ≤ xnx h := F.2.2
  refine xr_okL (fun hl9 => ?_)
  have r_x1 : -2147483648 ≤ x1 ∧ x1 ≤ 2147483647 := hl9 (xI x1) (.tail _ (.head _)) (Nat.le_of_ble_eq_true rfl)
  refine xr_aload_n (pc := 0) (i := 0) (hI := d_Store_drop_0) (hi := rfl) (hl := rfl) ?_
  refine xr_iload_n (pc := 1) (i := 1) (hI := d_Store_drop_1) (hi := rfl) (hl := rfl) ?_
  obtain ⟨c1_, hyp⟩ := hyp
  refine xq_callV (pc := 2) (index := 56) (K := m_Store_placeInBuffer) (As := [xI x1]) (S := []) (L0 := [xR 5, xI x1, xZ]) (hI := d_Store_drop_2) (hK := k_Store_placeInBuffer) (hlk := w_1388) (hnoM := rfl) (hS8 := Nat.le_of_ble_eq_true rfl) (ci := 7) (N := 6) (C := "BeaconIndex$Store") (T := xF7) (hc := rfl) (hci := Nat.le_of_ble_eq_true rfl) (htb := (ft_5 F)) (hinst := w_1366) (hsel := w_1367) (hlen := Nat.le_of_ble_eq_true rfl) (hst := rfl) (hL0 := rfl)  (p_Store_placeInBuffer F c1_ ?_)
  show xwp G m_Store_drop (d + 5) 5 [xR 5, xI x1, xZ] [xI (kidx (bufL h) x1)] _ _ _
  have f2_ : -1 ≤ (kidx (bufL h) x1) := (idxI_rng _ _).1
  have f3_ : (kidx (bufL h) x1) < als h 6 := kidx_lt c1_ _
  refine xr_istore_n (pc := 5) (i := 2) (L9 := [xR 5, xI x1, xI (kidx (bufL h) x1)]) (hI := d_Store_drop_5) (hi := rfl) (hn := Nat.le_of_ble_eq_true rfl) (hL9 := rfl) ?_
  refine xr_iload_n (pc := 6) (i := 2) (hI := d_Store_drop_6) (hi := rfl) (hl := rfl) ?_
  refine xr_iconst (pc := 7) (hI := d_Store_drop_7) (hr := by decide) ?_
  refine xr_icmp_eq (pc := 8) (tgt := 20) (hI := d_Store_drop_8) (ht := by decide) (fun q9 => ?_) (fun q9 => ?_)
  · replace hyp := hyp.1 q9
    have q4_ := q9
    clear q9
    exact xr_drop (L9 := [xR 5, xI x1, xZ]) (xdrs (xdrs (xdrz xdr0))) hyp
  · replace hyp := hyp.2 q9
    have q4_ := q9
    clear q9
    refine xr_aload_n (pc := 11) (i := 0) (hI := d_Store_drop_11) (hi := rfl) (hl := rfl) ?_
    refine xg_getf (pc := 12) (ci := 7) (k := 0) (N := 6) (v9 := 2) (v := 6) (T := xF7) (hI := d_Store_drop_12) (hw := w_148) rfl xi7 (Or.inl rfl) (Nat.le_of_ble_eq_true rfl) (Nat.le_of_ble_eq_true rfl) rfl (ft_5 F) (fp_5_0 F) (fun f5_ => ?_)
    clear f5_
    refine xr_iload_n (pc := 15) (i := 2) (hI := d_Store_drop_15) (hi := rfl) (hl := rfl) ?_
    exact xq_callV (pc := 16) (index := 60) (K := m_ArrayList_remove) (As := [xI (kidx (bufL h) x1)]) (S := []) (L0 := [xR 6, xI (kidx (bufL h) x1), xZ, xZ]) (hI := d_Store_drop_16) (hK := k_ArrayList_remove) (hlk := w_581) (hnoM := rfl) (hS8 := Nat.le_of_ble_eq_true rfl) (ci := 13) (N := 3) (C := "java/util/ArrayList") (T := xF13) (hc := rfl) (hci := Nat.le_of_ble_eq_true rfl) (htb := (ft_6 F)) (hinst := w_582) (hsel := w_583) (hlen := Nat.le_of_ble_eq_true rfl) (hst := rfl) (hL0 := rfl)  (xwp_mono hyp (fun v9 h9 q9 => xr_drop (L9 := [xR 5, xI x1, xZ]) (xdrs (xdrs (xdrz xdr0))) q9) (fun _ _ z9 => z9))
theorem d_Store_drop_19 : decode prog_8_method_6_code 19 = .ok (.pop, 1) := by decide +kernel
theorem v_Store_drop_19 {G : XG} {d : Nat} {h : XH} {Q : XV → XH → Prop} {X : Nat → XH → Prop} {x1 s0 : Int} (F : xFix h) (hyp : (xwp G m_Store_drop (d + 5) 20 [xR 5, xI x1, xZ] [] h Q X)) : xwp G m_Store_drop (d + 5) 19 [xR 5, xI x1, xZ] [xR s0] h Q X := by
  have hnx9 : (93 : Int) ≤ xnx h := F.2.2
  refine xr_okL (fun hl9 => ?_)
  have r_x1 : -2147483648 ≤ x1 ∧ x1 ≤ 2147483647 := hl9 (xI x1) (.tail _ (.head _)) (Nat.le_of_ble_eq_true rfl)
  refine xr_pop (pc := 19) (hI := d_Store_drop_19) (hv := rfl) ?_
  exact hyp
theorem d_Store_drop_20 : decode prog_8_method_6_code 20 = .ok (.aload_n 0, 1) := by decide +kernel
theorem d_Store_drop_21 : decode prog_8_method_6_code 21 = .ok (.iload_n 1, 1) := by decide +kernel
theorem d_Store_drop_22 : decode prog_8_method_6_code 22 = .ok (.invokevirtual 63, 3) := by decide +kernel
theorem k_Store_placeInSegments : xCal m_Store_placeInSegments 1 := ⟨List.mem_append_right _ (List.mem_of_getElem? (i := 1313) (by decide +kernel)), w_3, Nat.le_of_ble_eq_true rfl, ⟨by decide +kernel, by decide +kernel⟩, by decide +kernel, by decide +kernel, rfl⟩
theorem w_1389 : Cond.methodLink "BeaconIndex$Store" 63 ⟨"BeaconIndex$Store", "placeInSegments", "(I)I"⟩ ∈ lw_tbl := List.mem_append_right _ (List.mem_of_getElem? (i := 1389) (by decide +kernel))
theorem w_1311 : Cond.instanceMethod ⟨"BeaconIndex$Store", "placeInSegments", "(I)I"⟩ ∈ lw_tbl := List.mem_append_right _ (List.mem_of_getElem? (i := 1311) (by decide +kernel))
theorem w_1312 : Cond.selects "BeaconIndex$Store" ⟨"BeaconIndex$Store", "placeInSegments", "(I)I"⟩ ⟨"BeaconIndex$Store", "placeInSegments", "(I)I"⟩ ∈ lw_tbl := List.mem_append_right _ (List.mem_of_getElem? (i := 1312) (by decide +kernel))
theorem d_Store_drop_25 : decode prog_8_method_6_code 25 = .ok (.istore_n 2, 1) := by decide +kernel
theorem d_Store_drop_26 : decode prog_8_method_6_code 26 = .ok (.iload_n 2, 1) := by decide +kernel
theorem d_Store_drop_27 : decode prog_8_method_6_code 27 = .ok (.iconst (-1), 1) := by decide +kernel
theorem d_Store_drop_28 : decode prog_8_method_6_code 28 = .ok (.if_icmp .eq 18, 3) := by decide +kernel
theorem d_Store_drop_31 : decode prog_8_method_6_code 31 = .ok (.aload_n 0, 1) := by decide +kernel
theorem d_Store_drop_32 : decode prog_8_method_6_code 32 = .ok (.getfield 18, 3) := by decide +kernel
theorem d_Store_drop_35 : decode prog_8_method_6_code 35 = .ok (.iload_n 2, 1) := by decide +kernel
theorem d_Store_drop_36 : decode prog_8_method_6_code 36 = .ok (.invokevirtual 45, 3) := by decide +kernel
theorem d_Store_drop_39 : decode prog_8_method_6_code 39 = .ok (.checkcast 25, 3) := by decide +kernel
theorem d_Store_drop_42 : decode prog_8_method_6_code 42 = .ok (.iconst 1, 1) := by decide +kernel
theorem d_Store_drop_43 : decode prog_8_method_6_code 43 = .ok (.putfield 52, 3) := by decide +kernel
theorem xtk_9_5 : xfTK 9 5 = true := by decide +kernel
theorem v_Store_drop_20 {G : XG} {d : Nat} {h : XH} {Q : XV → XH → Prop} {X : Nat → XH → Prop} {x1 : Int} (F : xFix h) (hyp : stok h ∧ (((sidx (filL h) x1) = (-1) → (xwp G m_Store_drop (d + 5) 46 [xZ, xZ, xI (sidx (filL h) x1)] [] h Q X)) ∧ (¬ (sidx (filL h) x1) = (-1) → xtg h (alg h 7 (sidx (filL h) x1)) = 9 ∧ 0 ≤ (alg h 7 (sidx (filL h) x1)) ∧ (xFix (xst h (alg h 7 (sidx (filL h) x1)) 5 1) → xwp G m_Store_drop (d + 5) 46 [xZ, xZ, xI (sidx (filL h) x1)] [] (xst h (alg h 7 (sidx (filL h) x1)) 5 1) Q X)))) : xwp G m_Store_drop (d + 5) 20 [xR 5, xI x1, xZ] [] h Q X := by
  have hnx9 : (93 : Int) ≤ xnx h := F.2.2
  refine xr_okL (fun hl9 => ?_)
  have r_x1 : -2147483648 ≤ x1 ∧ x1 ≤ 2147483647 := hl9 (xI x1) (.tail _ (.head _)) (Nat.le_of_ble_eq_true rfl)
  refine xr_aload_n (pc := 20) (i := 0) (hI := d_Store_drop_20) (hi := rfl) (hl := rfl) ?_
  refine xr_iload_n (pc := 21) (i := 1) (hI := d_Store_drop_21) (hi := rfl) (hl := rfl) ?_
  obtain ⟨c1_, hyp⟩ := hyp
  refine xq_callV (pc := 22) (index := 63) (K := m_Store_placeInSegments) (As := [xI x1]) (S := []) (L0 := [xR 5, xI x1, xZ, xZ]) (hI := d_Store_drop_22) (hK := k_Store_placeInSegments) (hlk := w_1389) (hnoM := rfl) (hS8 := Nat.le_of_ble_eq_true rfl) (ci := 7) (N := 6) (C := "BeaconIndex$Store") (T := xF7) (hc := rfl) (hci := Nat.le_of_ble_eq_true rfl) (htb := (ft_5 F)) (hinst := w_1311) (hsel := w_1312) (hlen := Nat.le_of_ble_eq_true rfl) (hst := rfl) (hL0 := rfl)  (p_Store_placeInSegments F c1_ ?_)
  show xwp G m_Store_drop (d + 5) 25 [xR 5, xI x1, xZ] [xI (sidx (filL h) x1)] _ _ _
  have f2_ : -1 ≤ (sidx (filL h) x1) := (idxI_rng _ _).1
  have f3_ : (sidx (filL h) x1) < als h 7 := sidx_lt c1_ _
  refine xr_istore_n (pc := 25) (i := 2) (L9 := [xR 5, xI x1, xI (sidx (filL h) x1)]) (hI := d_Store_drop_25) (hi := rfl) (hn := Nat.le_of_ble_eq_true rfl) (hL9 := rfl) ?_
  refine xr_iload_n (pc := 26) (i := 2) (hI := d_Store_drop_26) (hi := rfl) (hl := rfl) ?_
  refine xr_iconst (pc := 27) (hI := d_Store_drop_27) (hr := by decide) ?_
  refine xr_icmp_eq (pc := 28) (tgt := 46) (hI := d_Store_drop_28) (ht := by decide) (fun q9 => ?_) (fun q9 => ?_)
  · replace hyp := hyp.1 q9
    have q4_ := q9
    clear q9
    exact xr_drop (L9 := [xZ, xZ, xI (sidx (filL h) x1)]) (xdrz (xdrz (xdrs xdr0))) hyp
  · replace hyp := hyp.2 q9
    have q4_ := q9
    clear q9
    refine xr_aload_n (pc := 31) (i := 0) (hI := d_Store_drop_31) (hi := rfl) (hl := rfl) ?_
    refine xg_getf (pc := 32) (ci := 7) (k := 1) (N := 6) (v9 := 2) (v := 7) (T := xF7) (hI := d_Store_drop_32) (hw := w_150) rfl xi7 (Or.inl rfl) (Nat.le_of_ble_eq_true rfl) (Nat.le_of_ble_eq_true rfl) rfl (ft_5 F) (fp_5_1 F) (fun f5_ => ?_)
    clear f5_
    refine xr_iload_n (pc := 35) (i := 2) (hI := d_Store_drop_35) (hi := rfl) (hl := rfl) ?_
    refine xq_callV (pc := 36) (index := 45) (K := m_ArrayList_get) (As := [xI (sidx (filL h) x1)]) (S := []) (L0 := [xR 7, xI (sidx (filL h) x1)]) (hI := d_Store_drop_36) (hK := k_ArrayList_get) (hlk := w_468) (hnoM := rfl) (hS8 := Nat.le_of_ble_eq_true rfl) (ci := 13) (N := 3) (C := "java/util/ArrayList") (T := xF13) (hc := rfl) (hci := Nat.le_of_ble_eq_true rfl) (htb := (ft_7 F)) (hinst := w_469) (hsel := w_470) (hlen := Nat.le_of_ble_eq_true rfl) (hst := rfl) (hL0 := rfl)  (p_AL_get F c1_.2.1 (by clear hyp; omega) (by clear hyp; omega) ?_)
    show xwp G m_Store_drop (d + 5) 39 [xR 5, xI x1, xI (sidx (filL h) x1)] [xR (alg h 7 (sidx (filL h) x1))] _ _ _
    obtain ⟨c9, hyp⟩ := hyp
    have t6_ := c9
    clear c9
    refine xr_cast (pc := 39) (ci := 9) (T := xF9) (N := 6) (hI := d_Store_drop_39) w_113 rfl (Nat.le_of_ble_eq_true rfl) t6_ ?_
    refine xr_iconst (pc := 42) (hI := d_Store_drop_42) (hr := by decide) ?_
    obtain ⟨c7_, hyp⟩ := hyp
    refine xr_putf (pc := 43) (ci := 9) (k := 5) (N := 6) (v9 := 0) (T := xF9) (tF := xT9) (hI := d_Store_drop_43) (hw := w_132) rfl xi9 xt9 xn9 (Or.inl rfl) (Nat.le_of_ble_eq_true rfl) (Nat.le_of_ble_eq_true rfl) rfl xfit_z rfl t6_ c7_ (fun _ => (by decide : (0 : Int) ≤ 1 ∧ (1 : Int) ≤ 1)) ?_
    have F8_ : xFix (xst h (alg h 7 (sidx (filL h) x1)) 5 1) := F.stT (t := 9) c7_ t6_ xtk_9_5
    exact xr_drop (L9 := [xZ, xZ, xI (sidx (filL h) x1)]) (xdrz (xdrz (xdrs xdr0))) (hyp F8_)
theorem d_Store_drop_46 : decode prog_8_method_6_code 46 = .ok (.iload_n 2, 1) := by decide +kernel
theorem d_Store_drop_47 : decode prog_8_method_6_code 47 = .ok (.iconst (-1), 1) := by decide +kernel
theorem d_Store_drop_48 : decode prog_8_method_6_code 48 = .ok (.if_icmp .eq 7, 3) := by decide +kernel
theorem d_Store_drop_55 : decode prog_8_method_6_code 55 = .ok (.iconst 0, 1) := by decide +kernel
theorem d_Store_drop_56 : decode prog_8_method_6_code 56 = .ok (.ireturn, 1) := by decide +kernel
theorem d_Store_drop_51 : decode prog_8_method_6_code 51 = .ok (.iconst 1, 1) := by decide +kernel
theorem d_Store_drop_52 : decode prog_8_method_6_code 52 = .ok (.goto 4, 3) := by decide +kernel
theorem v_Store_drop_46 {G : XG} {d : Nat} {h : XH} {Q : XV → XH → Prop} {X : Nat → XH → Prop} {x2 : Int} (F : xFix h) (hyp : ((x2 = (-1) → (Q (xI 0) h)) ∧ (¬ x2 = (-1) → (Q (xI 1) h)))) : xwp G m_Store_drop (d + 5) 46 [xZ, xZ, xI x2] [] h Q X := by
  have hnx9 : (93 : Int) ≤ xnx h := F.2.2
  refine xr_okL (fun hl9 => ?_)
  have r_x2 : -2147483648 ≤ x2 ∧ x2 ≤ 2147483647 := hl9 (xI x2) (.tail _ (.tail _ (.head _))) (Nat.le_of_ble_eq_true rfl)
  refine xr_iload_n (pc := 46) (i := 2) (hI := d_Store_drop_46) (hi := rfl) (hl := rfl) ?_
  refine xr_iconst (pc := 47) (hI := d_Store_drop_47) (hr := by decide) ?_
  refine xr_icmp_eq (pc := 48) (tgt := 55) (hI := d_Store_drop_48) (ht := by decide) (fun q9 => ?_) (fun q9 => ?_)
  · replace hyp := hyp.1 q9
    have q1_ := q9
    clear q9
    refine xr_iconst (pc := 55) (hI := d_Store_drop_55) (hr := by decide) ?_
    refine xr_ireturnT (S := []) (pc := 56) (hI := d_Store_drop_56) (hr := rfl) (xnar_z (by decide)) ?_
    exact hyp
  · replace hyp := hyp.2 q9
    have q1_ := q9
    clear q9
    refine xr_iconst (pc := 51) (hI := d_Store_drop_51) (hr := by decide) ?_
    refine xr_goto (pc := 52) (tgt := 56) (hI := d_Store_drop_52) (ht := by decide) ?_
    refine xr_ireturnT (S := []) (pc := 56) (hI := d_Store_drop_56) (hr := rfl) (xnar_z (by decide)) ?_
    exact hyp
abbrev m_Store_fileBuffer : XM := (⟨"BeaconIndex$Store", "fileBuffer", "()V"⟩, prog_8_method_13_code, 2, none, [])
theorem d_Store_fileBuffer_0 : decode prog_8_method_13_code 0 = .ok (.aload_n 0, 1) := by decide +kernel
theorem d_Store_fileBuffer_1 : decode prog_8_method_13_code 1 = .ok (.getfield 12, 3) := by decide +kernel
theorem d_Store_fileBuffer_4 : decode prog_8_method_13_code 4 = .ok (.invokevirtual 76, 3) := by decide +kernel
theorem k_ArrayList_isEmpty : xCal m_ArrayList_isEmpty 0 := ⟨List.mem_append_right _ (List.mem_of_getElem? (i := 463) (by decide +kernel)), w_6, Nat.le_of_ble_eq_true rfl, ⟨by decide +kernel, by decide +kernel⟩, by decide +kernel, by decide +kernel, rfl⟩
theorem w_460 : Cond.methodLink "BeaconIndex$Store" 76 ⟨"java/util/ArrayList", "isEmpty", "()Z"⟩ ∈ lw_tbl := List.mem_append_right _ (List.mem_of_getElem? (i := 460) (by decide +kernel))
theorem w_461 : Cond.instanceMethod ⟨"java/util/ArrayList", "isEmpty", "()Z"⟩ ∈ lw_tbl := List.mem_append_right _ (List.mem_of_getElem? (i := 461) (by decide +kernel))
theorem w_462 : Cond.selects "java/util/ArrayList" ⟨"java/util/ArrayList", "isEmpty", "()Z"⟩ ⟨"java/util/ArrayList", "isEmpty", "()Z"⟩ ∈ lw_tbl := List.mem_append_right _ (List.mem_of_getElem? (i := 462) (by decide +kernel))
theorem d_Store_fileBuffer_7 : decode prog_8_method_13_code 7 = .ok (.ifCond .ne 15, 3) := by decide +kernel
theorem d_Store_fileBuffer_22 : decode prog_8_method_13_code 22 = .ok (.return_, 1) := by decide +kernel
theorem d_Store_fileBuffer_10 : decode prog_8_method_13_code 10 = .ok (.aload_n 0, 1) := by decide +kernel
theorem d_Store_fileBuffer_11 : decode prog_8_method_13_code 11 = .ok (.getfield 34, 3) := by decide +kernel
theorem d_Store_fileBuffer_14 : decode prog_8_method_13_code 14 = .ok (.aload_n 0, 1) := by decide +kernel
theorem d_Store_fileBuffer_15 : decode prog_8_method_13_code 15 = .ok (.getfield 21, 3) := by decide +kernel
theorem d_Store_fileBuffer_18 : decode prog_8_method_13_code 18 = .ok (.arraylength, 1) := by decide +kernel
theorem d_Store_fileBuffer_19 : decode prog_8_method_13_code 19 = .ok (.if_icmp .lt 4, 3) := by decide +kernel
theorem d_Store_fileBuffer_23 : decode prog_8_method_13_code 23 = .ok (.iconst 0, 1) := by decide +kernel
theorem d_Store_fileBuffer_24 : decode prog_8_method_13_code 24 = .ok (.istore_n 1, 1) := by decide +kernel
theorem v_Store_fileBuffer_0 {G : XG} {d : Nat} {h : XH} {Q : XV → XH → Prop} {X : Nat → XH → Prop} (F : xFix h) (hyp : alok h 6 ∧ ((((decide (als h 6 = 0)) = true) → (Q xN h)) ∧ (¬ ((decide (als h 6 = 0)) = true) → (((xpl h 5 4) < 60 → (xwp G m_Store_fileBuffer (d + 8) 25 [xR 5, xI 0] [] h Q X)) ∧ (¬ (xpl h 5 4) < 60 → (Q xN h)))))) : xwp G m_Store_fileBuffer (d + 8) 0 [xR 5, xZ] [] h Q X := by
  have hnx9 : (93 : Int) ≤ xnx h := F.2.2
  refine xr_aload_n (pc := 0) (i := 0) (hI := d_Store_fileBuffer_0) (hi := rfl) (hl := rfl) ?_
  refine xg_getf (pc := 1) (ci := 7) (k := 0) (N := 6) (v9 := 2) (v := 6) (T := xF7) (hI := d_Store_fileBuffer_1) (hw := w_148) rfl xi7 (Or.inl rfl) (Nat.le_of_ble_eq_true rfl) (Nat.le_of_ble_eq_true rfl) rfl (ft_5 F) (fp_5_0 F) (fun f1_ => ?_)
  clear f1_
  obtain ⟨c2_, hyp⟩ := hyp
  refine xq_callV (pc := 4) (index := 76) (K := m_ArrayList_isEmpty) (As := []) (S := []) (L0 := [xR 6]) (hI := d_Store_fileBuffer_4) (hK := k_ArrayList_isEmpty) (hlk := w_460) (hnoM := rfl) (hS8 := Nat.le_of_ble_eq_true rfl) (ci := 13) (N := 3) (C := "java/util/ArrayList") (T := xF13) (hc := rfl) (hci := Nat.le_of_ble_eq_true rfl) (htb := (ft_6 F)) (hinst := w_461) (hsel := w_462) (hlen := Nat.le_of_ble_eq_true rfl) (hst := rfl) (hL0 := rfl)  (p_AL_isEmpty F c2_ ?_)
  show xwp G m_Store_fileBuffer (d + 8) 7 [xR 5, xZ] [xI (b2i (decide (als h 6 = 0)))] _ _ _
  refine xr_if_ne (pc := 7) (tgt := 22) (hI := d_Store_fileBuffer_7) (ht := by decide) (fun q9 => ?_) (fun q9 => ?_)
  · replace hyp := hyp.1 (b2i_1.mp q9)
    have q3_ := b2i_1.mp q9
    clear q9
    refine xr_return (S := []) (pc := 22) (hI := d_Store_fileBuffer_22) (hr := rfl) ?_
    exact hyp
  · replace hyp := hyp.2 (b2i_0.mp q9)
    have q3_ := b2i_0.mp q9
    clear q9
    refine xr_aload_n (pc := 10) (i := 0) (hI := d_Store_fileBuffer_10) (hi := rfl) (hl := rfl) ?_
    refine xg_getf (pc := 11) (ci := 7) (k := 4) (N := 6) (v9 := 0) (v := (xpl h 5 4)) (T := xF7) (hI := d_Store_fileBuffer_11) (hw := w_154) rfl xi7 (Or.inl rfl) (Nat.le_of_ble_eq_true rfl) (Nat.le_of_ble_eq_true rfl) rfl (ft_5 F) rfl (fun f4_ => ?_)
    replace f4_ : -2147483648 ≤ (xpl h 5 4) ∧ (xpl h 5 4) ≤ 2147483647 := f4_
    refine xr_aload_n (pc := 14) (i := 0) (hI := d_Store_fileBuffer_14) (hi := rfl) (hl := rfl) ?_
    refine xg_getf (pc := 15) (ci := 7) (k := 2) (N := 6) (v9 := 2) (v := 8) (T := xF7) (hI := d_Store_fileBuffer_15) (hw := w_152) rfl xi7 (Or.inl rfl) (Nat.le_of_ble_eq_true rfl) (Nat.le_of_ble_eq_true rfl) rfl (ft_5 F) (fp_5_2 F) (fun f5_ => ?_)
    clear f5_
    refine xg_alen (pc := 18) (t := 100) (v := 60) (hI := d_Store_fileBuffer_18) (ft_8 F) (Nat.le_of_ble_eq_true rfl) (Nat.le_of_ble_eq_true rfl) rfl (fl_8 F) (fun f6_ f7_ => ?_)
    clear f6_ f7_
    refine xr_icmp_lt (pc := 19) (tgt := 23) (hI := d_Store_fileBuffer_19) (ht := by decide) (fun q9 => ?_) (fun q9 => ?_)
    · replace hyp := hyp.1 q9
      have q8_ := q9
      clear q9
      refine xr_iconst (pc := 23) (hI := d_Store_fileBuffer_23) (hr := by decide) ?_
      refine xr_istore_n (pc := 24) (i := 1) (L9 := [xR 5, xI 0]) (hI := d_Store_fileBuffer_24) (hi := rfl) (hn := Nat.le_of_ble_eq_true rfl) (hL9 := rfl) ?_
      exact hyp
    · replace hyp := hyp.2 q9
      have q8_ := q9
      clear q9
      refine xr_return (S := []) (pc := 22) (hI := d_Store_fileBuffer_22) (hr := rfl) ?_
      exact hyp
theorem d_Store_fileBuffer_25 : decode prog_8_method_13_code 25 = .ok (.iload_n 1, 1) := by decide +kernel
theorem d_Store_fileBuffer_26 : decode prog_8_method_13_code 26 = .ok (.aload_n 0, 1) := by decide +kernel
theorem d_Store_fileBuffer_27 : decode prog_8_method_13_code 27 = .ok (.getfield 12, 3) := by decide +kernel
theorem d_Store_fileBuffer_30 : decode prog_8_method_13_code 30 = .ok (.invokevirtual 41, 3) := by decide +kernel
theorem d_Store_fileBuffer_33 : decode prog_8_method_13_code 33 = .ok (.if_icmp .ge 28, 3) := by decide +kernel
theorem d_Store_fileBuffer_61 : decode prog_8_method_13_code 61 = .ok (.aload_n 0, 1) := by decide +kernel
theorem d_Store_fileBuffer_62 : decode prog_8_method_13_code 62 = .ok (.getfield 21, 3) := by decide +kernel
theorem d_Store_fileBuffer_65 : decode prog_8_method_13_code 65 = .ok (.aload_n 0, 1) := by decide +kernel
theorem d_Store_fileBuffer_66 : decode prog_8_method_13_code 66 = .ok (.getfield 34, 3) := by decide +kernel
theorem d_Store_fileBuffer_69 : decode prog_8_method_13_code 69 = .ok (.aload_n 0, 1) := by decide +kernel
theorem d_Store_fileBuffer_70 : decode prog_8_method_13_code 70 = .ok (.getfield 12, 3) := by decide +kernel
theorem d_Store_fileBuffer_73 : decode prog_8_method_13_code 73 = .ok (.invokevirtual 41, 3) := by decide +kernel
theorem d_Store_fileBuffer_76 : decode prog_8_method_13_code 76 = .ok (.iastore, 1) := by decide +kernel
theorem xfa_8 : xfreeA 8 = true := by decide +kernel
theorem d_Store_fileBuffer_77 : decode prog_8_method_13_code 77 = .ok (.aload_n 0, 1) := by decide +kernel
theorem d_Store_fileBuffer_78 : decode prog_8_method_13_code 78 = .ok (.dup, 1) := by decide +kernel
theorem d_Store_fileBuffer_79 : decode prog_8_method_13_code 79 = .ok (.getfield 34, 3) := by decide +kernel
theorem d_Store_fileBuffer_82 : decode prog_8_method_13_code 82 = .ok (.iconst 1, 1) := by decide +kernel
theorem d_Store_fileBuffer_83 : decode prog_8_method_13_code 83 = .ok (.iadd, 1) := by decide +kernel
theorem d_Store_fileBuffer_84 : decode prog_8_method_13_code 84 = .ok (.putfield 34, 3) := by decide +kernel
theorem xfk_5_4 : xfree 5 4 = true := by decide +kernel
theorem d_Store_fileBuffer_87 : decode prog_8_method_13_code 87 = .ok (.aload_n 0, 1) := by decide +kernel
theorem d_Store_fileBuffer_88 : decode prog_8_method_13_code 88 = .ok (.getfield 12, 3) := by decide +kernel
theorem d_Store_fileBuffer_91 : decode prog_8_method_13_code 91 = .ok (.invokevirtual 84, 3) := by decide +kernel
theorem k_ArrayList_clear : xCal m_ArrayList_clear 0 := ⟨List.mem_append_right _ (List.mem_of_getElem? (i := 552) (by decide +kernel)), w_6, Nat.le_of_ble_eq_true rfl, ⟨by decide +kernel, by decide +kernel⟩, by decide +kernel, by decide +kernel, rfl⟩
theorem w_549 : Cond.methodLink "BeaconIndex$Store" 84 ⟨"java/util/ArrayList", "clear", "()V"⟩ ∈ lw_tbl := List.mem_append_right _ (List.mem_of_getElem? (i := 549) (by decide +kernel))
theorem w_550 : Cond.instanceMethod ⟨"java/util/ArrayList", "clear", "()V"⟩ ∈ lw_tbl := List.mem_append_right _ (List.mem_of_getElem? (i := 550) (by decide +kernel))
theorem w_551 : Cond.selects "java/util/ArrayList" ⟨"java/util/ArrayList", "clear", "()V"⟩ ⟨"java/util/ArrayList", "clear", "()V"⟩ ∈ lw_tbl := List.mem_append_right _ (List.mem_of_getElem? (i := 551) (by decide +kernel))
theorem d_Store_fileBuffer_36 : decode prog_8_method_13_code 36 = .ok (.aload_n 0, 1) := by decide +kernel
theorem d_Store_fileBuffer_37 : decode prog_8_method_13_code 37 = .ok (.getfield 18, 3) := by decide +kernel
theorem d_Store_fileBuffer_40 : decode prog_8_method_13_code 40 = .ok (.aload_n 0, 1) := by decide +kernel
theorem d_Store_fileBuffer_41 : decode prog_8_method_13_code 41 = .ok (.getfield 12, 3) := by decide +kernel
theorem d_Store_fileBuffer_44 : decode prog_8_method_13_code 44 = .ok (.iload_n 1, 1) := by decide +kernel
theorem d_Store_fileBuffer_45 : decode prog_8_method_13_code 45 = .ok (.invokevirtual 45, 3) := by decide +kernel
theorem d_Store_fileBuffer_48 : decode prog_8_method_13_code 48 = .ok (.checkcast 25, 3) := by decide +kernel
theorem d_Store_fileBuffer_51 : decode prog_8_method_13_code 51 = .ok (.invokevirtual 80, 3) := by decide +kernel
theorem k_ArrayList_add_Object : xCal m_ArrayList_add_Object 1 := ⟨List.mem_append_right _ (List.mem_of_getElem? (i := 485) (by decide +kernel)), w_6, Nat.le_of_ble_eq_true rfl, ⟨by decide +kernel, by decide +kernel⟩, by decide +kernel, by decide +kernel, rfl⟩
theorem w_482 : Cond.methodLink "BeaconIndex$Store" 80 ⟨"java/util/ArrayList", "add", "(Ljava/lang/Object;)Z"⟩ ∈ lw_tbl := List.mem_append_right _ (List.mem_of_getElem? (i := 482) (by decide +kernel))
theorem w_483 : Cond.instanceMethod ⟨"java/util/ArrayList", "add", "(Ljava/lang/Object;)Z"⟩ ∈ lw_tbl := List.mem_append_right _ (List.mem_of_getElem? (i := 483) (by decide +kernel))
theorem w_484 : Cond.selects "java/util/ArrayList" ⟨"java/util/ArrayList", "add", "(Ljava/lang/Object;)Z"⟩ ⟨"java/util/ArrayList", "add", "(Ljava/lang/Object;)Z"⟩ ∈ lw_tbl := List.mem_append_right _ (List.mem_of_getElem? (i := 484) (by decide +kernel))
theorem v_Store_fileBuffer_25 {G : XG} {d : Nat} {h : XH} {Q : XV → XH → Prop} {X : Nat → XH → Prop} {x1 : Int} (F : xFix h) (hyp : alok h 6 ∧ (((als h 6) ≤ x1 → 0 ≤ (xpl h 5 4) ∧ (xpl h 5 4) < 60 ∧ (xFix (xst (xst h 8 (xpl h 5 4) (als h 6)) 5 4 ((xpl h 5 4) + 1)) → xwp G m_ArrayList_clear (d + 7) 0 [xR 6, xZ, xZ, xZ] [] (xst (xst h 8 (xpl h 5 4) (als h 6)) 5 4 ((xpl h 5 4) + 1)) (fun v9 h9 => xwp G m_Store_fileBuffer (d + 8) 94 [xZ, xZ] (xpush v9 []) h9 Q X) X)) ∧ (¬ (als h 6) ≤ x1 → 0 ≤ x1 ∧ xtg h (alg h 6 x1) = 9 ∧ (xwp G m_ArrayList_add_Object (d + 7) 0 [xR 7, xR (alg h 6 x1)] [] h (fun v9 h9 => xwp G m_Store_fileBuffer (d + 8) 54 [xR 5, xI x1] (xpush v9 []) h9 Q X) X)))) : xwp G m_Store_fileBuffer (d + 8) 25 [xR 5, xI x1] [] h Q X := by
  have hnx9 : (93 : Int) ≤ xnx h := F.2.2
  refine xr_okL (fun hl9 => ?_)
  have r_x1 : -2147483648 ≤ x1 ∧ x1 ≤ 2147483647 := hl9 (xI x1) (.tail _ (.head _)) (Nat.le_of_ble_eq_true rfl)
  refine xr_iload_n (pc := 25) (i := 1) (hI := d_Store_fileBuffer_25) (hi := rfl) (hl := rfl) ?_
  refine xr_aload_n (pc := 26) (i := 0) (hI := d_Store_fileBuffer_26) (hi := rfl) (hl := rfl) ?_
  refine xg_getf (pc := 27) (ci := 7) (k := 0) (N := 6) (v9 := 2) (v := 6) (T := xF7) (hI := d_Store_fileBuffer_27) (hw := w_148) rfl xi7 (Or.inl rfl) (Nat.le_of_ble_eq_true rfl) (Nat.le_of_ble_eq_true rfl) rfl (ft_5 F) (fp_5_0 F) (fun f1_ => ?_)
  clear f1_
  obtain ⟨c2_, hyp⟩ := hyp
  refine xq_callV (pc := 30) (index := 41) (K := m_ArrayList_size) (As := []) (S := [xI x1]) (L0 := [xR 6]) (hI := d_Store_fileBuffer_30) (hK := k_ArrayList_size) (hlk := w_464) (hnoM := rfl) (hS8 := Nat.le_of_ble_eq_true rfl) (ci := 13) (N := 3) (C := "java/util/ArrayList") (T := xF13) (hc := rfl) (hci := Nat.le_of_ble_eq_true rfl) (htb := (ft_6 F)) (hinst := w_465) (hsel := w_466) (hlen := Nat.le_of_ble_eq_true rfl) (hst := rfl) (hL0 := rfl)  (p_AL_size F c2_ ?_)
  show xwp G m_Store_fileBuffer (d + 8) 33 [xR 5, xI x1] [xI (als h 6), xI x1] _ _ _
  have f3_ : 0 ≤ (als h 6) ∧ (als h 6) ≤ 1000000 := ⟨c2_.2.2.1, c2_.2.2.2.2⟩
  refine xr_icmp_ge (pc := 33) (tgt := 61) (hI := d_Store_fileBuffer_33) (ht := by decide) (fun q9 => ?_) (fun q9 => ?_)
  · replace hyp := hyp.1 q9
    have q4_ := q9
    clear q9
    refine xr_aload_n (pc := 61) (i := 0) (hI := d_Store_fileBuffer_61) (hi := rfl) (hl := rfl) ?_
    refine xg_getf (pc := 62) (ci := 7) (k := 2) (N := 6) (v9 := 2) (v := 8) (T := xF7) (hI := d_Store_fileBuffer_62) (hw := w_152) rfl xi7 (Or.inl rfl) (Nat.le_of_ble_eq_true rfl) (Nat.le_of_ble_eq_true rfl) rfl (ft_5 F) (fp_5_2 F) (fun f5_ => ?_)
    clear f5_
    refine xr_aload_n (pc := 65) (i := 0) (hI := d_Store_fileBuffer_65) (hi := rfl) (hl := rfl) ?_
    refine xg_getf (pc := 66) (ci := 7) (k := 4) (N := 6) (v9 := 0) (v := (xpl h 5 4)) (T := xF7) (hI := d_Store_fileBuffer_66) (hw := w_154) rfl xi7 (Or.inl rfl) (Nat.le_of_ble_eq_true rfl) (Nat.le_of_ble_eq_true rfl) rfl (ft_5 F) rfl (fun f6_ => ?_)
    replace f6_ : -2147483648 ≤ (xpl h 5 4) ∧ (xpl h 5 4) ≤ 2147483647 := f6_
    refine xr_aload_n (pc := 69) (i := 0) (hI := d_Store_fileBuffer_69) (hi := rfl) (hl := rfl) ?_
    refine xg_getf (pc := 70) (ci := 7) (k := 0) (N := 6) (v9 := 2) (v := 6) (T := xF7) (hI := d_Store_fileBuffer_70) (hw := w_148) rfl xi7 (Or.inl rfl) (Nat.le_of_ble_eq_true rfl) (Nat.le_of_ble_eq_true rfl) rfl (ft_5 F) (fp_5_0 F) (fun f7_ => ?_)
    clear f7_
    refine xq_callV (pc := 73) (index := 41) (K := m_ArrayList_size) (As := []) (S := [xI (xpl h 5 4), xR 8]) (L0 := [xR 6]) (hI := d_Store_fileBuffer_73) (hK := k_ArrayList_size) (hlk := w_464) (hnoM := rfl) (hS8 := Nat.le_of_ble_eq_true rfl) (ci := 13) (N := 3) (C := "java/util/ArrayList") (T := xF13) (hc := rfl) (hci := Nat.le_of_ble_eq_true rfl) (htb := (ft_6 F)) (hinst := w_465) (hsel := w_466) (hlen := Nat.le_of_ble_eq_true rfl) (hst := rfl) (hL0 := rfl)  (p_AL_size F c2_ ?_)
    show xwp G m_Store_fileBuffer (d + 8) 76 [xR 5, xI x1] [xI (als h 6), xI (xpl h 5 4), xR 8] _ _ _
    have f8_ : 0 ≤ (als h 6) ∧ (als h 6) ≤ 1000000 := ⟨c2_.2.2.1, c2_.2.2.2.2⟩
    obtain ⟨c9_, hyp⟩ := hyp
    obtain ⟨c10_, hyp⟩ := hyp
    refine xr_iastore (pc := 76) (hI := d_Store_fileBuffer_76) (ft_8 F) (by decide) c9_ (xlt_of (fl_8 F) c10_) ?_
    have F11_ : xFix (xst h 8 (xpl h 5 4) (als h 6)) := F.stA xfa_8
    refine xr_aload_n (pc := 77) (i := 0) (hI := d_Store_fileBuffer_77) (hi := rfl) (hl := rfl) ?_
    refine xr_dup (pc := 78) (hI := d_Store_fileBuffer_78) (hv := rfl) ?_
    refine xg_getf (pc := 79) (ci := 7) (k := 4) (N := 6) (v9 := 0) (v := (xpl h 5 4)) (T := xF7) (hI := d_Store_fileBuffer_79) (hw := w_154) rfl xi7 (Or.inl rfl) (Nat.le_of_ble_eq_true rfl) (Nat.le_of_ble_eq_true rfl) rfl (ft_5 F11_) (xpl_oa (by decide)) (fun f12_ => ?_)
    replace f12_ : -2147483648 ≤ (xpl h 5 4) ∧ (xpl h 5 4) ≤ 2147483647 := f12_
    refine xr_iconst (pc := 82) (hI := d_Store_fileBuffer_82) (hr := by decide) ?_
    refine xr_iadd (pc := 83) (hI := d_Store_fileBuffer_83) (hr := ⟨by clear hyp; omega, by clear hyp; omega⟩) ?_
    refine xr_putf (pc := 84) (ci := 7) (k := 4) (N := 6) (v9 := 0) (T := xF7) (tF := xT7) (hI := d_Store_fileBuffer_84) (hw := w_154) rfl xi7 xt7 xn7 (Or.inl rfl) (Nat.le_of_ble_eq_true rfl) (Nat.le_of_ble_eq_true rfl) rfl xfit_i rfl (ft_5 F11_) (by decide) (fun z => z) ?_
    have F13_ : xFix (xst (xst h 8 (xpl h 5 4) (als h 6)) 5 4 ((xpl h 5 4) + 1)) := F11_.stL xfk_5_4
    refine xr_aload_n (pc := 87) (i := 0) (hI := d_Store_fileBuffer_87) (hi := rfl) (hl := rfl) ?_
    refine xg_getf (pc := 88) (ci := 7) (k := 0) (N := 6) (v9 := 2) (v := 6) (T := xF7) (hI := d_Store_fileBuffer_88) (hw := w_148) rfl xi7 (Or.inl rfl) (Nat.le_of_ble_eq_true rfl) (Nat.le_of_ble_eq_true rfl) rfl (ft_5 F13_) (fp_5_0 F13_) (fun f14_ => ?_)
    clear f14_
    exact xq_callV (pc := 91) (index := 84) (K := m_ArrayList_clear) (As := []) (S := []) (L0 := [xR 6, xZ, xZ, xZ]) (hI := d_Store_fileBuffer_91) (hK := k_ArrayList_clear) (hlk := w_549) (hnoM := rfl) (hS8 := Nat.le_of_ble_eq_true rfl) (ci := 13) (N := 3) (C := "java/util/ArrayList") (T := xF13) (hc := rfl) (hci := Nat.le_of_ble_eq_true rfl) (htb := (ft_6 F13_)) (hinst := w_550) (hsel := w_551) (hlen := Nat.le_of_ble_eq_true rfl) (hst := rfl) (hL0 := rfl)  (xwp_mono (hyp F13_) (fun v9 h9 q9 => xr_drop (L9 := [xZ, xZ]) (xdrz (xdrz xdr0)) q9) (fun _ _ z9 => z9))
  · replace hyp := hyp.2 q9
    have q4_ := q9
    clear q9
    refine xr_aload_n (pc := 36) (i := 0) (hI := d_Store_fileBuffer_36) (hi := rfl) (hl := rfl) ?_
    refine xg_getf (pc := 37) (ci := 7) (k := 1) (N := 6) (v9 := 2) (v := 7) (T := xF7) (hI := d_Store_fileBuffer_37) (hw := w_150) rfl xi7 (Or.inl rfl) (Nat.le_of_ble_eq_true rfl) (Nat.le_of_ble_eq_true rfl) rfl (ft_5 F) (fp_5_1 F) (fun f15_ => ?_)
    clear f15_
    refine xr_aload_n (pc := 40) (i := 0) (hI := d_Store_fileBuffer_40) (hi := rfl) (hl := rfl) ?_
    refine xg_getf (pc := 41) (ci := 7) (k := 0) (N := 6) (v9 := 2) (v := 6) (T := xF7) (hI := d_Store_fileBuffer_41) (hw := w_148) rfl xi7 (Or.inl rfl) (Nat.le_of_ble_eq_true rfl) (Nat.le_of_ble_eq_true rfl) rfl (ft_5 F) (fp_5_0 F) (fun f16_ => ?_)
    clear f16_
    refine xr_iload_n (pc := 44) (i := 1) (hI := d_Store_fileBuffer_44) (hi := rfl) (hl := rfl) ?_
    obtain ⟨c17_, hyp⟩ := hyp
    refine xq_callV (pc := 45) (index := 45) (K := m_ArrayList_get) (As := [xI x1]) (S := [xR 7]) (L0 := [xR 6, xI x1]) (hI := d_Store_fileBuffer_45) (hK := k_ArrayList_get) (hlk := w_468) (hnoM := rfl) (hS8 := Nat.le_of_ble_eq_true rfl) (ci := 13) (N := 3) (C := "java/util/ArrayList") (T := xF13) (hc := rfl) (hci := Nat.le_of_ble_eq_true rfl) (htb := (ft_6 F)) (hinst := w_469) (hsel := w_470) (hlen := Nat.le_of_ble_eq_true rfl) (hst := rfl) (hL0 := rfl)  (p_AL_get F c2_ c17_ (by clear hyp; omega) ?_)
    show xwp G m_Store_fileBuffer (d + 8) 48 [xR 5, xI x1] [xR (alg h 6 x1), xR 7] _ _ _
    obtain ⟨c9, hyp⟩ := hyp
    have t18_ := c9
    clear c9
    refine xr_cast (pc := 48) (ci := 9) (T := xF9) (N := 6) (hI := d_Store_fileBuffer_48) w_113 rfl (Nat.le_of_ble_eq_true rfl) t18_ ?_
    exact xq_callV (pc := 51) (index := 80) (K := m_ArrayList_add_Object) (As := [xR (alg h 6 x1)]) (S := []) (L0 := [xR 7, xR (alg h 6 x1)]) (hI := d_Store_fileBuffer_51) (hK := k_ArrayList_add_Object) (hlk := w_482) (hnoM := rfl) (hS8 := Nat.le_of_ble_eq_true rfl) (ci := 13) (N := 3) (C := "java/util/ArrayList") (T := xF13) (hc := rfl) (hci := Nat.le_of_ble_eq_true rfl) (htb := (ft_7 F)) (hinst := w_483) (hsel := w_484) (hlen := Nat.le_of_ble_eq_true rfl) (hst := rfl) (hL0 := rfl)  hyp
theorem d_Store_fileBuffer_54 : decode prog_8_method_13_code 54 = .ok (.pop, 1) := by decide +kernel
theorem d_Store_fileBuffer_55 : decode prog_8_method_13_code 55 = .ok (.iinc 1 1, 3) := by decide +kernel
theorem d_Store_fileBuffer_58 : decode prog_8_method_13_code 58 = .ok (.goto (-33), 3) := by decide +kernel
theorem v_Store_fileBuffer_54 {G : XG} {d : Nat} {h : XH} {Q : XV → XH → Prop} {X : Nat → XH → Prop} {x1 s0 : Int} (F : xFix h) (hyp : xiR (x1 + 1) ∧ (xwp G m_Store_fileBuffer (d + 8) 25 [xR 5, xI (x1 + 1)] [] h Q X)) : xwp G m_Store_fileBuffer (d + 8) 54 [xR 5, xI x1] [xI s0] h Q X := by
  have hnx9 : (93 : Int) ≤ xnx h := F.2.2
  refine xr_okL (fun hl9 => ?_)
  have r_x1 : -2147483648 ≤ x1 ∧ x1 ≤ 2147483647 := hl9 (xI x1) (.tail _ (.head _)) (Nat.le_of_ble_eq_true rfl)
  refine xr_okS (fun hs9 => ?_)
  have r_s0 : -2147483648 ≤ s0 ∧ s0 ≤ 2147483647 := hs9 (xI s0) (.head _)
  refine xr_pop (pc := 54) (hI := d_Store_fileBuffer_54) (hv := rfl) ?_
  obtain ⟨c9, hyp⟩ := hyp
  refine xr_iinc (pc := 55) (i := 1) (L9 := [xR 5, xI (x1 + 1)]) (hI := d_Store_fileBuffer_55) (hl := rfl) (hn := Nat.le_of_ble_eq_true rfl) (hr := c9) (hL9 := rfl) ?_
  refine xr_goto (pc := 58) (tgt := 25) (hI := d_Store_fileBuffer_58) (ht := by decide) ?_
  exact hyp
theorem d_Store_fileBuffer_94 : decode prog_8_method_13_code 94 = .ok (.return_, 1) := by decide +kernel
theorem v_Store_fileBuffer_94 {G : XG} {d : Nat} {h : XH} {Q : XV → XH → Prop} {X : Nat → XH → Prop} (F : xFix h) (hyp : (Q xN h)) : xwp G m_Store_fileBuffer (d + 8) 94 [xZ, xZ] [] h Q X := by
  have hnx9 : (93 : Int) ≤ xnx h := F.2.2
  refine xr_return (S := []) (pc := 94) (hI := d_Store_fileBuffer_94) (hr := rfl) ?_
  exact hyp
abbrev m_Store_replaceSizes : XM := (⟨"BeaconIndex$Store", "replaceSizes", "(III)V"⟩, prog_8_method_18_code, 7, none, [])
theorem d_Store_replaceSizes_0 : decode prog_8_method_18_code 0 = .ok (.iload_n 3, 1) := by decide +kernel
theorem d_Store_replaceSizes_1 : decode prog_8_method_18_code 1 = .ok (.ifCond .le 7, 3) := by decide +kernel
theorem d_Store_replaceSizes_8 : decode prog_8_method_18_code 8 = .ok (.iconst 0, 1) := by decide +kernel
theorem d_Store_replaceSizes_4 : decode prog_8_method_18_code 4 = .ok (.iconst 1, 1) := by decide +kernel
theorem d_Store_replaceSizes_5 : decode prog_8_method_18_code 5 = .ok (.goto 4, 3) := by decide +kernel
theorem v_Store_replaceSizes_0 {G : XG} {d : Nat} {h : XH} {Q : XV → XH → Prop} {X : Nat → XH → Prop} {x1 x2 x3 : Int} (F : xFix h) (hyp : ((x3 ≤ 0 → (xwp G m_Store_replaceSizes (d + 2) 9 [xR 5, xI x1, xI x2, xI x3, xZ, xZ, xZ] [xI 0] h Q X)) ∧ (¬ x3 ≤ 0 → (xwp G m_Store_replaceSizes (d + 2) 9 [xR 5, xI x1, xI x2, xI x3, xZ, xZ, xZ] [xI 1] h Q X)))) : xwp G m_Store_replaceSizes (d + 2) 0 [xR 5, xI x1, xI x2, xI x3, xZ, xZ, xZ] [] h Q X := by
  have hnx9 : (93 : Int) ≤ xnx h := F.2.2
  refine xr_okL (fun hl9 => ?_)
  have r_x1 : -2147483648 ≤ x1 ∧ x1 ≤ 2147483647 := hl9 (xI x1) (.tail _ (.head _)) (Nat.le_of_ble_eq_true rfl)
  have r_x2 : -2147483648 ≤ x2 ∧ x2 ≤ 2147483647 := hl9 (xI x2) (.tail _ (.tail _ (.head _))) (Nat.le_of_ble_eq_true rfl)
  have r_x3 : -2147483648 ≤ x3 ∧ x3 ≤ 2147483647 := hl9 (xI x3) (.tail _ (.tail _ (.tail _ (.head _)))) (Nat.le_of_ble_eq_true rfl)
  refine xr_iload_n (pc := 0) (i := 3) (hI := d_Store_replaceSizes_0) (hi := rfl) (hl := rfl) ?_
  refine xr_if_le (pc := 1) (tgt := 8) (hI := d_Store_replaceSizes_1) (ht := by decide) (fun q9 => ?_) (fun q9 => ?_)
  · replace hyp := hyp.1 q9
    have q1_ := q9
    clear q9
    refine xr_iconst (pc := 8) (hI := d_Store_replaceSizes_8) (hr := by decide) ?_
    exact hyp
  · replace hyp := hyp.2 q9
    have q1_ := q9
    clear q9
    refine xr_iconst (pc := 4) (hI := d_Store_replaceSizes_4) (hr := by decide) ?_
    refine xr_goto (pc := 5) (tgt := 9) (hI := d_Store_replaceSizes_5) (ht := by decide) ?_
    exact hyp
theorem d_Store_replaceSizes_9 : decode prog_8_method_18_code 9 = .ok (.istore 4, 2) := by decide +kernel
theorem d_Store_replaceSizes_11 : decode prog_8_method_18_code 11 = .ok (.iload 4, 2) := by decide +kernel
theorem d_Store_replaceSizes_13 : decode prog_8_method_18_code 13 = .ok (.ifCond .le 19, 3) := by decide +kernel
theorem d_Store_replaceSizes_16 : decode prog_8_method_18_code 16 = .ok (.iload_n 1, 1) := by decide +kernel
theorem d_Store_replaceSizes_17 : decode prog_8_method_18_code 17 = .ok (.aload_n 0, 1) := by decide +kernel
theorem d_Store_replaceSizes_18 : decode prog_8_method_18_code 18 = .ok (.getfield 21, 3) := by decide +kernel
theorem d_Store_replaceSizes_21 : decode prog_8_method_18_code 21 = .ok (.arraylength, 1) := by decide +kernel
theorem d_Store_replaceSizes_22 : decode prog_8_method_18_code 22 = .ok (.if_icmp .ge 10, 3) := by decide +kernel
theorem d_Store_replaceSizes_25 : decode prog_8_method_18_code 25 = .ok (.aload_n 0, 1) := by decide +kernel
theorem d_Store_replaceSizes_26 : decode prog_8_method_18_code 26 = .ok (.getfield 21, 3) := by decide +kernel
theorem d_Store_replaceSizes_29 : decode prog_8_method_18_code 29 = .ok (.iload_n 1, 1) := by decide +kernel
theorem d_Store_replaceSizes_30 : decode prog_8_method_18_code 30 = .ok (.iload_n 3, 1) := by decide +kernel
theorem d_Store_replaceSizes_31 : decode prog_8_method_18_code 31 = .ok (.iastore, 1) := by decide +kernel
theorem v_Store_replaceSizes_9 {G : XG} {d : Nat} {h : XH} {Q : XV → XH → Prop} {X : Nat → XH → Prop} {x1 x2 x3 s0 : Int} (F : xFix h) (hyp : ((s0 ≤ 0 → (xwp G m_Store_replaceSizes (d + 2) 32 [xR 5, xI x1, xI x2, xZ, xI s0, xZ, xZ] [] h Q X)) ∧ (¬ s0 ≤ 0 → (((60 : Int) ≤ x1 → (xwp G m_Store_replaceSizes (d + 2) 32 [xR 5, xI x1, xI x2, xZ, xI s0, xZ, xZ] [] h Q X)) ∧ (¬ (60 : Int) ≤ x1 → 0 ≤ x1 ∧ (xFix (xst h 8 x1 x3) → xwp G m_Store_replaceSizes (d + 2) 32 [xR 5, xI x1, xI x2, xZ, xI s0, xZ, xZ] [] (xst h 8 x1 x3) Q X)))))) : xwp G m_Store_replaceSizes (d + 2) 9 [xR 5, xI x1, xI x2, xI x3, xZ, xZ, xZ] [xI s0] h Q X := by
  have hnx9 : (93 : Int) ≤ xnx h := F.2.2
  refine xr_okL (fun hl9 => ?_)
  have r_x1 : -2147483648 ≤ x1 ∧ x1 ≤ 2147483647 := hl9 (xI x1) (.tail _ (.head _)) (Nat.le_of_ble_eq_true rfl)
  have r_x2 : -2147483648 ≤ x2 ∧ x2 ≤ 2147483647 := hl9 (xI x2) (.tail _ (.tail _ (.head _))) (Nat.le_of_ble_eq_true rfl)
  have r_x3 : -2147483648 ≤ x3 ∧ x3 ≤ 2147483647 := hl9 (xI x3) (.tail _ (.tail _ (.tail _ (.head _)))) (Nat.le_of_ble_eq_true rfl)
  refine xr_okS (fun hs9 => ?_)
  have r_s0 : -2147483648 ≤ s0 ∧ s0 ≤ 2147483647 := hs9 (xI s0) (.head _)
  refine xr_istore (pc := 9) (i := 4) (L9 := [xR 5, xI x1, xI x2, xI x3, xI s0, xZ, xZ]) (hI := d_Store_replaceSizes_9) (hn := Nat.le_of_ble_eq_true rfl) (hL9 := rfl) ?_
  refine xr_iload (pc := 11) (i := 4) (hI := d_Store_replaceSizes_11) (hl := rfl) ?_
  refine xr_if_le (pc := 13) (tgt := 32) (hI := d_Store_replaceSizes_13) (ht := by decide) (fun q9 => ?_) (fun q9 => ?_)
  · replace hyp := hyp.1 q9
    have q1_ := q9
    clear q9
    exact xr_drop (L9 := [xR 5, xI x1, xI x2, xZ, xI s0, xZ, xZ]) (xdrs (xdrs (xdrs (xdrz (xdrs (xdrs (xdrs xdr0))))))) hyp
  · replace hyp := hyp.2 q9
    have q1_ := q9
    clear q9
    refine xr_iload_n (pc := 16) (i := 1) (hI := d_Store_replaceSizes_16) (hi := rfl) (hl := rfl) ?_
    refine xr_aload_n (pc := 17) (i := 0) (hI := d_Store_replaceSizes_17) (hi := rfl) (hl := rfl) ?_
    refine xg_getf (pc := 18) (ci := 7) (k := 2) (N := 6) (v9 := 2) (v := 8) (T := xF7) (hI := d_Store_replaceSizes_18) (hw := w_152) rfl xi7 (Or.inl rfl) (Nat.le_of_ble_eq_true rfl) (Nat.le_of_ble_eq_true rfl) rfl (ft_5 F) (fp_5_2 F) (fun f2_ => ?_)
    clear f2_
    refine xg_alen (pc := 21) (t := 100) (v := 60) (hI := d_Store_replaceSizes_21) (ft_8 F) (Nat.le_of_ble_eq_true rfl) (Nat.le_of_ble_eq_true rfl) rfl (fl_8 F) (fun f3_ f4_ => ?_)
    clear f3_ f4_
    refine xr_icmp_ge (pc := 22) (tgt := 32) (hI := d_Store_replaceSizes_22) (ht := by decide) (fun q9 => ?_) (fun q9 => ?_)
    · replace hyp := hyp.1 q9
      have q5_ := q9
      clear q9
      exact xr_drop (L9 := [xR 5, xI x1, xI x2, xZ, xI s0, xZ, xZ]) (xdrs (xdrs (xdrs (xdrz (xdrs (xdrs (xdrs xdr0))))))) hyp
    · replace hyp := hyp.2 q9
      have q5_ := q9
      clear q9
      refine xr_aload_n (pc := 25) (i := 0) (hI := d_Store_replaceSizes_25) (hi := rfl) (hl := rfl) ?_
      refine xg_getf (pc := 26) (ci := 7) (k := 2) (N := 6) (v9 := 2) (v := 8) (T := xF7) (hI := d_Store_replaceSizes_26) (hw := w_152) rfl xi7 (Or.inl rfl) (Nat.le_of_ble_eq_true rfl) (Nat.le_of_ble_eq_true rfl) rfl (ft_5 F) (fp_5_2 F) (fun f6_ => ?_)
      clear f6_
      refine xr_iload_n (pc := 29) (i := 1) (hI := d_Store_replaceSizes_29) (hi := rfl) (hl := rfl) ?_
      refine xr_iload_n (pc := 30) (i := 3) (hI := d_Store_replaceSizes_30) (hi := rfl) (hl := rfl) ?_
      obtain ⟨c7_, hyp⟩ := hyp
      refine xr_iastore (pc := 31) (hI := d_Store_replaceSizes_31) (ft_8 F) (by decide) c7_ (xlt_of (fl_8 F) (by clear hyp; omega)) ?_
      have F8_ : xFix (xst h 8 x1 x3) := F.stA xfa_8
      exact xr_drop (L9 := [xR 5, xI x1, xI x2, xZ, xI s0, xZ, xZ]) (xdrs (xdrs (xdrs (xdrz (xdrs (xdrs (xdrs xdr0))))))) (hyp F8_)
theorem d_Store_replaceSizes_32 : decode prog_8_method_18_code 32 = .ok (.iload_n 2, 1) := by decide +kernel
theorem d_Store_replaceSizes_33 : decode prog_8_method_18_code 33 = .ok (.iload 4, 2) := by decide +kernel
theorem d_Store_replaceSizes_35 : decode prog_8_method_18_code 35 = .ok (.isub, 1) := by decide +kernel
theorem d_Store_replaceSizes_36 : decode prog_8_method_18_code 36 = .ok (.istore 5, 2) := by decide +kernel
theorem d_Store_replaceSizes_38 : decode prog_8_method_18_code 38 = .ok (.iload_n 1, 1) := by decide +kernel
theorem d_Store_replaceSizes_39 : decode prog_8_method_18_code 39 = .ok (.iload 4, 2) := by decide +kernel
theorem d_Store_replaceSizes_41 : decode prog_8_method_18_code 41 = .ok (.iadd, 1) := by decide +kernel
theorem d_Store_replaceSizes_42 : decode prog_8_method_18_code 42 = .ok (.istore 6, 2) := by decide +kernel
theorem v_Store_replaceSizes_32 {G : XG} {d : Nat} {h : XH} {Q : XV → XH → Prop} {X : Nat → XH → Prop} {x1 x2 x4 : Int} (F : xFix h) (hyp : xiR (x2 - x4) ∧ xiR (x1 + x4) ∧ (xwp G m_Store_replaceSizes (d + 2) 44 [xR 5, xZ, xZ, xZ, xZ, xI (x2 - x4), xI (x1 + x4)] [] h Q X)) : xwp G m_Store_replaceSizes (d + 2) 32 [xR 5, xI x1, xI x2, xZ, xI x4, xZ, xZ] [] h Q X := by
  have hnx9 : (93 : Int) ≤ xnx h := F.2.2
  refine xr_okL (fun hl9 => ?_)
  have r_x1 : -2147483648 ≤ x1 ∧ x1 ≤ 2147483647 := hl9 (xI x1) (.tail _ (.head _)) (Nat.le_of_ble_eq_true rfl)
  have r_x2 : -2147483648 ≤ x2 ∧ x2 ≤ 2147483647 := hl9 (xI x2) (.tail _ (.tail _ (.head _))) (Nat.le_of_ble_eq_true rfl)
  have r_x4 : -2147483648 ≤ x4 ∧ x4 ≤ 2147483647 := hl9 (xI x4) (.tail _ (.tail _ (.tail _ (.tail _ (.head _))))) (Nat.le_of_ble_eq_true rfl)
  refine xr_iload_n (pc := 32) (i := 2) (hI := d_Store_replaceSizes_32) (hi := rfl) (hl := rfl) ?_
  refine xr_iload (pc := 33) (i := 4) (hI := d_Store_replaceSizes_33) (hl := rfl) ?_
  obtain ⟨c9, hyp⟩ := hyp
  refine xr_isub (pc := 35) (hI := d_Store_replaceSizes_35) (hr := c9) ?_
  refine xr_istore (pc := 36) (i := 5) (L9 := [xR 5, xI x1, xI x2, xZ, xI x4, xI (x2 - x4), xZ]) (hI := d_Store_replaceSizes_36) (hn := Nat.le_of_ble_eq_true rfl) (hL9 := rfl) ?_
  refine xr_iload_n (pc := 38) (i := 1) (hI := d_Store_replaceSizes_38) (hi := rfl) (hl := rfl) ?_
  refine xr_iload (pc := 39) (i := 4) (hI := d_Store_replaceSizes_39) (hl := rfl) ?_
  obtain ⟨c9, hyp⟩ := hyp
  refine xr_iadd (pc := 41) (hI := d_Store_replaceSizes_41) (hr := c9) ?_
  refine xr_istore (pc := 42) (i := 6) (L9 := [xR 5, xI x1, xI x2, xZ, xI x4, xI (x2 - x4), xI (x1 + x4)]) (hI := d_Store_replaceSizes_42) (hn := Nat.le_of_ble_eq_true rfl) (hL9 := rfl) ?_
  exact xr_drop (L9 := [xR 5, xZ, xZ, xZ, xZ, xI (x2 - x4), xI (x1 + x4)]) (xdrs (xdrz (xdrz (xdrs (xdrz (xdrs (xdrs xdr0))))))) hyp
theorem d_Store_replaceSizes_44 : decode prog_8_method_18_code 44 = .ok (.iload 6, 2) := by decide +kernel
theorem d_Store_replaceSizes_46 : decode prog_8_method_18_code 46 = .ok (.iload 5, 2) := by decide +kernel
theorem d_Store_replaceSizes_48 : decode prog_8_method_18_code 48 = .ok (.iadd, 1) := by decide +kernel
theorem d_Store_replaceSizes_49 : decode prog_8_method_18_code 49 = .ok (.aload_n 0, 1) := by decide +kernel
theorem d_Store_replaceSizes_50 : decode prog_8_method_18_code 50 = .ok (.getfield 34, 3) := by decide +kernel
theorem d_Store_replaceSizes_53 : decode prog_8_method_18_code 53 = .ok (.if_icmp .ge 25, 3) := by decide +kernel
theorem d_Store_replaceSizes_78 : decode prog_8_method_18_code 78 = .ok (.aload_n 0, 1) := by decide +kernel
theorem d_Store_replaceSizes_79 : decode prog_8_method_18_code 79 = .ok (.dup, 1) := by decide +kernel
theorem d_Store_replaceSizes_80 : decode prog_8_method_18_code 80 = .ok (.getfield 34, 3) := by decide +kernel
theorem d_Store_replaceSizes_83 : decode prog_8_method_18_code 83 = .ok (.iload 5, 2) := by decide +kernel
theorem d_Store_replaceSizes_85 : decode prog_8_method_18_code 85 = .ok (.isub, 1) := by decide +kernel
theorem d_Store_replaceSizes_86 : decode prog_8_method_18_code 86 = .ok (.putfield 34, 3) := by decide +kernel
theorem d_Store_replaceSizes_89 : decode prog_8_method_18_code 89 = .ok (.return_, 1) := by decide +kernel
theorem d_Store_replaceSizes_56 : decode prog_8_method_18_code 56 = .ok (.aload_n 0, 1) := by decide +kernel
theorem d_Store_replaceSizes_57 : decode prog_8_method_18_code 57 = .ok (.getfield 21, 3) := by decide +kernel
theorem d_Store_replaceSizes_60 : decode prog_8_method_18_code 60 = .ok (.iload 6, 2) := by decide +kernel
theorem d_Store_replaceSizes_62 : decode prog_8_method_18_code 62 = .ok (.aload_n 0, 1) := by decide +kernel
theorem d_Store_replaceSizes_63 : decode prog_8_method_18_code 63 = .ok (.iload 6, 2) := by decide +kernel
theorem d_Store_replaceSizes_65 : decode prog_8_method_18_code 65 = .ok (.iload 5, 2) := by decide +kernel
theorem d_Store_replaceSizes_67 : decode prog_8_method_18_code 67 = .ok (.iadd, 1) := by decide +kernel
theorem d_Store_replaceSizes_68 : decode prog_8_method_18_code 68 = .ok (.invokevirtual 66, 3) := by decide +kernel
theorem d_Store_replaceSizes_71 : decode prog_8_method_18_code 71 = .ok (.iastore, 1) := by decide +kernel
theorem d_Store_replaceSizes_72 : decode prog_8_method_18_code 72 = .ok (.iinc 6 1, 3) := by decide +kernel
theorem d_Store_replaceSizes_75 : decode prog_8_method_18_code 75 = .ok (.goto (-31), 3) := by decide +kernel
theorem v_Store_replaceSizes_44 {G : XG} {d : Nat} {h : XH} {Q : XV → XH → Prop} {X : Nat → XH → Prop} {x5 x6 : Int} (F : xFix h) (hyp : xiR (x6 + x5) ∧ (((xpl h 5 4) ≤ (x6 + x5) → xiR ((xpl h 5 4) - x5) ∧ (xFix (xst h 5 4 ((xpl h 5 4) - x5)) → Q xN (xst h 5 4 ((xpl h 5 4) - x5)))) ∧ (¬ (xpl h 5 4) ≤ (x6 + x5) → stok h ∧ 0 ≤ x6 ∧ x6 < 60 ∧ (xFix (xst h 8 x6 (szA (szL h) (x6 + x5))) → xwp G m_Store_replaceSizes (d + 2) 44 [xR 5, xZ, xZ, xZ, xZ, xI x5, xI (x6 + 1)] [] (xst h 8 x6 (szA (szL h) (x6 + x5))) Q X)))) : xwp G m_Store_replaceSizes (d + 2) 44 [xR 5, xZ, xZ, xZ, xZ, xI x5, xI x6] [] h Q X := by
  have hnx9 : (93 : Int) ≤ xnx h := F.2.2
  refine xr_okL (fun hl9 => ?_)
  have r_x5 : -2147483648 ≤ x5 ∧ x5 ≤ 2147483647 := hl9 (xI x5) (.tail _ (.tail _ (.tail _ (.tail _ (.tail _ (.head _)))))) (Nat.le_of_ble_eq_true rfl)
  have r_x6 : -2147483648 ≤ x6 ∧ x6 ≤ 2147483647 := hl9 (xI x6) (.tail _ (.tail _ (.tail _ (.tail _ (.tail _ (.tail _ (.head _))))))) (Nat.le_of_ble_eq_true rfl)
  refine xr_iload (pc := 44) (i := 6) (hI := d_Store_replaceSizes_44) (hl := rfl) ?_
  refine xr_iload (pc := 46) (i := 5) (hI := d_Store_replaceSizes_46) (hl := rfl) ?_
  obtain ⟨c9, hyp⟩ := hyp
  refine xr_iadd (pc := 48) (hI := d_Store_replaceSizes_48) (hr := c9) ?_
  refine xr_aload_n (pc := 49) (i := 0) (hI := d_Store_replaceSizes_49) (hi := rfl) (hl := rfl) ?_
  refine xg_getf (pc := 50) (ci := 7) (k := 4) (N := 6) (v9 := 0) (v := (xpl h 5 4)) (T := xF7) (hI := d_Store_replaceSizes_50) (hw := w_154) rfl xi7 (Or.inl rfl) (Nat.le_of_ble_eq_true rfl) (Nat.le_of_ble_eq_true rfl) rfl (ft_5 F) rfl (fun f1_ => ?_)
  replace f1_ : -2147483648 ≤ (xpl h 5 4) ∧ (xpl h 5 4) ≤ 2147483647 := f1_
  refine xr_icmp_ge (pc := 53) (tgt := 78) (hI := d_Store_replaceSizes_53) (ht := by decide) (fun q9 => ?_) (fun q9 => ?_)
  · replace hyp := hyp.1 q9
    have q2_ := q9
    clear q9
    refine xr_aload_n (pc := 78) (i := 0) (hI := d_Store_replaceSizes_78) (hi := rfl) (hl := rfl) ?_
    refine xr_dup (pc := 79) (hI := d_Store_replaceSizes_79) (hv := rfl) ?_
    refine xg_getf (pc := 80) (ci := 7) (k := 4) (N := 6) (v9 := 0) (v := (xpl h 5 4)) (T := xF7) (hI := d_Store_replaceSizes_80) (hw := w_154) rfl xi7 (Or.inl rfl) (Nat.le_of_ble_eq_true rfl) (Nat.le_of_ble_eq_true rfl) rfl (ft_5 F) rfl (fun f3_ => ?_)
    replace f3_ : -2147483648 ≤ (xpl h 5 4) ∧ (xpl h 5 4) ≤ 2147483647 := f3_
    refine xr_iload (pc := 83) (i := 5) (hI := d_Store_replaceSizes_83) (hl := rfl) ?_
    obtain ⟨c9, hyp⟩ := hyp
    refine xr_isub (pc := 85) (hI := d_Store_replaceSizes_85) (hr := c9) ?_
    refine xr_putf (pc := 86) (ci := 7) (k := 4) (N := 6) (v9 := 0) (T := xF7) (tF := xT7) (hI := d_Store_replaceSizes_86) (hw := w_154) rfl xi7 xt7 xn7 (Or.inl rfl) (Nat.le_of_ble_eq_true rfl) (Nat.le_of_ble_eq_true rfl) rfl xfit_i rfl (ft_5 F) (by decide) (fun z => z) ?_
    have F4_ : xFix (xst h 5 4 ((xpl h 5 4) - x5)) := F.stL xfk_5_4
    refine xr_return (S := []) (pc := 89) (hI := d_Store_replaceSizes_89) (hr := rfl) ?_
    exact hyp F4_
  · replace hyp := hyp.2 q9
    have q2_ := q9
    clear q9
    refine xr_aload_n (pc := 56) (i := 0) (hI := d_Store_replaceSizes_56) (hi := rfl) (hl := rfl) ?_
    refine xg_getf (pc := 57) (ci := 7) (k := 2) (N := 6) (v9 := 2) (v := 8) (T := xF7) (hI := d_Store_replaceSizes_57) (hw := w_152) rfl xi7 (Or.inl rfl) (Nat.le_of_ble_eq_true rfl) (Nat.le_of_ble_eq_true rfl) rfl (ft_5 F) (fp_5_2 F) (fun f5_ => ?_)
    clear f5_
    refine xr_iload (pc := 60) (i := 6) (hI := d_Store_replaceSizes_60) (hl := rfl) ?_
    refine xr_aload_n (pc := 62) (i := 0) (hI := d_Store_replaceSizes_62) (hi := rfl) (hl := rfl) ?_
    refine xr_iload (pc := 63) (i := 6) (hI := d_Store_replaceSizes_63) (hl := rfl) ?_
    refine xr_iload (pc := 65) (i := 5) (hI := d_Store_replaceSizes_65) (hl := rfl) ?_
    refine xr_iadd (pc := 67) (hI := d_Store_replaceSizes_67) (hr := ⟨by clear hyp; omega, by clear hyp; omega⟩) ?_
    obtain ⟨c6_, hyp⟩ := hyp
    refine xq_callV (pc := 68) (index := 66) (K := m_Store_sizeOf) (As := [xI (x6 + x5)]) (S := [xI x6, xR 8]) (L0 := [xR 5, xI (x6 + x5)]) (hI := d_Store_replaceSizes_68) (hK := k_Store_sizeOf) (hlk := w_565) (hnoM := rfl) (hS8 := Nat.le_of_ble_eq_true rfl) (ci := 7) (N := 6) (C := "BeaconIndex$Store") (T := xF7) (hc := rfl) (hci := Nat.le_of_ble_eq_true rfl) (htb := (ft_5 F)) (hinst := w_566) (hsel := w_567) (hlen := Nat.le_of_ble_eq_true rfl) (hst := rfl) (hL0 := rfl)  (p_Store_sizeOf F c6_ ?_)
    show xwp G m_Store_replaceSizes (d + 2) 71 [xR 5, xZ, xZ, xZ, xZ, xI x5, xI x6] [xI (szA (szL h) (x6 + x5)), xI x6, xR 8] _ _ _
    have f7_ : 0 ≤ (szA (szL h) (x6 + x5)) ∧ (szA (szL h) (x6 + x5)) ≤ 60 := szA_rng c6_ _
    obtain ⟨c8_, hyp⟩ := hyp
    obtain ⟨c9_, hyp⟩ := hyp
    refine xr_iastore (pc := 71) (hI := d_Store_replaceSizes_71) (ft_8 F) (by decide) c8_ (xlt_of (fl_8 F) c9_) ?_
    have F10_ : xFix (xst h 8 x6 (szA (szL h) (x6 + x5))) := F.stA xfa_8
    refine xr_iinc (pc := 72) (i := 6) (L9 := [xR 5, xZ, xZ, xZ, xZ, xI x5, xI (x6 + 1)]) (hI := d_Store_replaceSizes_72) (hl := rfl) (hn := Nat.le_of_ble_eq_true rfl) (hr := ⟨by clear hyp; omega, by clear hyp; omega⟩) (hL9 := rfl) ?_
    refine xr_goto (pc := 75) (tgt := 44) (hI := d_Store_replaceSizes_75) (ht := by decide) ?_
    exact (hyp F10_)
abbrev m_Store_mergeFrom : XM := (⟨"BeaconIndex$Store", "mergeFrom", "(II)I"⟩, prog_8_method_17_code, 7, (some .int), [])
theorem d_Store_mergeFrom_0 : decode prog_8_method_17_code 0 = .ok (.aload_n 0, 1) := by decide +kernel
theorem d_Store_mergeFrom_1 : decode prog_8_method_17_code 1 = .ok (.iload_n 1, 1) := by decide +kernel
theorem d_Store_mergeFrom_2 : decode prog_8_method_17_code 2 = .ok (.invokevirtual 69, 3) := by decide +kernel
theorem d_Store_mergeFrom_5 : decode prog_8_method_17_code 5 = .ok (.istore_n 3, 1) := by decide +kernel
theorem d_Store_mergeFrom_6 : decode prog_8_method_17_code 6 = .ok (.aload_n 0, 1) := by decide +kernel
theorem d_Store_mergeFrom_7 : decode prog_8_method_17_code 7 = .ok (.iload_n 1, 1) := by decide +kernel
theorem d_Store_mergeFrom_8 : decode prog_8_method_17_code 8 = .ok (.iload_n 2, 1) := by decide +kernel
theorem d_Store_mergeFrom_9 : decode prog_8_method_17_code 9 = .ok (.iadd, 1) := by decide +kernel
theorem d_Store_mergeFrom_10 : decode prog_8_method_17_code 10 = .ok (.invokevirtual 69, 3) := by decide +kernel
theorem d_Store_mergeFrom_13 : decode prog_8_method_17_code 13 = .ok (.istore 4, 2) := by decide +kernel
theorem d_Store_mergeFrom_15 : decode prog_8_method_17_code 15 = .ok (.iconst 0, 1) := by decide +kernel
theorem d_Store_mergeFrom_16 : decode prog_8_method_17_code 16 = .ok (.istore 5, 2) := by decide +kernel
theorem d_Store_mergeFrom_18 : decode prog_8_method_17_code 18 = .ok (.iload 4, 2) := by decide +kernel
theorem d_Store_mergeFrom_20 : decode prog_8_method_17_code 20 = .ok (.iconst 1, 1) := by decide +kernel
theorem d_Store_mergeFrom_21 : decode prog_8_method_17_code 21 = .ok (.isub, 1) := by decide +kernel
theorem d_Store_mergeFrom_22 : decode prog_8_method_17_code 22 = .ok (.istore 6, 2) := by decide +kernel
theorem v_Store_mergeFrom_0 {G : XG} {d : Nat} {h : XH} {Q : XV → XH → Prop} {X : Nat → XH → Prop} {x1 x2 : Int} (F : xFix h) (hyp : stok h ∧ xiR (x1 + x2) ∧ (xwp G m_Store_mergeFrom (d + 5) 24 [xR 5, xI x1, xI x2, xI (stA (szL h) x1), xI (stA (szL h) (x1 + x2)), xI 0, xI ((stA (szL h) (x1 + x2)) - 1)] [] h Q X)) : xwp G m_Store_mergeFrom (d + 5) 0 [xR 5, xI x1, xI x2, xZ, xZ, xZ, xZ] [] h Q X := by
  have hnx9 : (93 : Int) ≤ xnx h := F.2.2
  refine xr_okL (fun hl9 => ?_)
  have r_x1 : -2147483648 ≤ x1 ∧ x1 ≤ 2147483647 := hl9 (xI x1) (.tail _ (.head _)) (Nat.le_of_ble_eq_true rfl)
  have r_x2 : -2147483648 ≤ x2 ∧ x2 ≤ 2147483647 := hl9 (xI x2) (.tail _ (.tail _ (.head _))) (Nat.le_of_ble_eq_true rfl)
  refine xr_aload_n (pc := 0) (i := 0) (hI := d_Store_mergeFrom_0) (hi := rfl) (hl := rfl) ?_
  refine xr_iload_n (pc := 1) (i := 1) (hI := d_Store_mergeFrom_1) (hi := rfl) (hl := rfl) ?_
  obtain ⟨c1_, hyp⟩ := hyp
  refine xq_callV (pc := 2) (index := 69) (K := m_Store_startOf) (As := [xI x1]) (S := []) (L0 := [xR 5, xI x1, xZ, xZ]) (hI := d_Store_mergeFrom_2) (hK := k_Store_startOf) (hlk := w_573) (hnoM := rfl) (hS8 := Nat.le_of_ble_eq_true rfl) (ci := 7) (N := 6) (C := "BeaconIndex$Store") (T := xF7) (hc := rfl) (hci := Nat.le_of_ble_eq_true rfl) (htb := (ft_5 F)) (hinst := w_574) (hsel := w_575) (hlen := Nat.le_of_ble_eq_true rfl) (hst := rfl) (hL0 := rfl)  (p_Store_startOf F c1_ ?_)
  show xwp G m_Store_mergeFrom (d + 5) 5 [xR 5, xI x1, xI x2, xZ, xZ, xZ, xZ] [xI (stA (szL h) x1)] _ _ _
  have f2_ : 0 ≤ (stA (szL h) x1) ∧ (stA (szL h) x1) ≤ 3600 := stA_rng c1_ _
  refine xr_istore_n (pc := 5) (i := 3) (L9 := [xR 5, xI x1, xI x2, xI (stA (szL h) x1), xZ, xZ, xZ]) (hI := d_Store_mergeFrom_5) (hi := rfl) (hn := Nat.le_of_ble_eq_true rfl) (hL9 := rfl) ?_
  refine xr_aload_n (pc := 6) (i := 0) (hI := d_Store_mergeFrom_6) (hi := rfl) (hl := rfl) ?_
  refine xr_iload_n (pc := 7) (i := 1) (hI := d_Store_mergeFrom_7) (hi := rfl) (hl := rfl) ?_
  refine xr_iload_n (pc := 8) (i := 2) (hI := d_Store_mergeFrom_8) (hi := rfl) (hl := rfl) ?_
  obtain ⟨c9, hyp⟩ := hyp
  refine xr_iadd (pc := 9) (hI := d_Store_mergeFrom_9) (hr := c9) ?_
  refine xq_callV (pc := 10) (index := 69) (K := m_Store_startOf) (As := [xI (x1 + x2)]) (S := []) (L0 := [xR 5, xI (x1 + x2), xZ, xZ]) (hI := d_Store_mergeFrom_10) (hK := k_Store_startOf) (hlk := w_573) (hnoM := rfl) (hS8 := Nat.le_of_ble_eq_true rfl) (ci := 7) (N := 6) (C := "BeaconIndex$Store") (T := xF7) (hc := rfl) (hci := Nat.le_of_ble_eq_true rfl) (htb := (ft_5 F)) (hinst := w_574) (hsel := w_575) (hlen := Nat.le_of_ble_eq_true rfl) (hst := rfl) (hL0 := rfl)  (p_Store_startOf F c1_ ?_)
  show xwp G m_Store_mergeFrom (d + 5) 13 [xR 5, xI x1, xI x2, xI (stA (szL h) x1), xZ, xZ, xZ] [xI (stA (szL h) (x1 + x2))] _ _ _
  have f3_ : 0 ≤ (stA (szL h) (x1 + x2)) ∧ (stA (szL h) (x1 + x2)) ≤ 3600 := stA_rng c1_ _
  refine xr_istore (pc := 13) (i := 4) (L9 := [xR 5, xI x1, xI x2, xI (stA (szL h) x1), xI (stA (szL h) (x1 + x2)), xZ, xZ]) (hI := d_Store_mergeFrom_13) (hn := Nat.le_of_ble_eq_true rfl) (hL9 := rfl) ?_
  refine xr_iconst (pc := 15) (hI := d_Store_mergeFrom_15) (hr := by decide) ?_
  refine xr_istore (pc := 16) (i := 5) (L9 := [xR 5, xI x1, xI x2, xI (stA (szL h) x1), xI (stA (szL h) (x1 + x2)), xI 0, xZ]) (hI := d_Store_mergeFrom_16) (hn := Nat.le_of_ble_eq_true rfl) (hL9 := rfl) ?_
  refine xr_iload (pc := 18) (i := 4) (hI := d_Store_mergeFrom_18) (hl := rfl) ?_
  refine xr_iconst (pc := 20) (hI := d_Store_mergeFrom_20) (hr := by decide) ?_
  refine xr_isub (pc := 21) (hI := d_Store_mergeFrom_21) (hr := ⟨by clear hyp; omega, by clear hyp; omega⟩) ?_
  refine xr_istore (pc := 22) (i := 6) (L9 := [xR 5, xI x1, xI x2, xI (stA (szL h) x1), xI (stA (szL h) (x1 + x2)), xI 0, xI ((stA (szL h) (x1 + x2)) - 1)]) (hI := d_Store_mergeFrom_22) (hn := Nat.le_of_ble_eq_true rfl) (hL9 := rfl) ?_
  exact hyp
theorem d_Store_mergeFrom_24 : decode prog_8_method_17_code 24 = .ok (.iload 6, 2) := by decide +kernel
theorem d_Store_mergeFrom_26 : decode prog_8_method_17_code 26 = .ok (.iload_n 3, 1) := by decide +kernel
theorem d_Store_mergeFrom_27 : decode prog_8_method_17_code 27 = .ok (.if_icmp .lt 34, 3) := by decide +kernel
theorem d_Store_mergeFrom_61 : decode prog_8_method_17_code 61 = .ok (.aload_n 0, 1) := by decide +kernel
theorem d_Store_mergeFrom_62 : decode prog_8_method_17_code 62 = .ok (.iload_n 1, 1) := by decide +kernel
theorem d_Store_mergeFrom_63 : decode prog_8_method_17_code 63 = .ok (.iload_n 2, 1) := by decide +kernel
theorem d_Store_mergeFrom_64 : decode prog_8_method_17_code 64 = .ok (.iload 4, 2) := by decide +kernel
theorem d_Store_mergeFrom_66 : decode prog_8_method_17_code 66 = .ok (.iload_n 3, 1) := by decide +kernel
theorem d_Store_mergeFrom_67 : decode prog_8_method_17_code 67 = .ok (.isub, 1) := by decide +kernel
theorem d_Store_mergeFrom_68 : decode prog_8_method_17_code 68 = .ok (.iload 5, 2) := by decide +kernel
theorem d_Store_mergeFrom_70 : decode prog_8_method_17_code 70 = .ok (.isub, 1) := by decide +kernel
theorem d_Store_mergeFrom_71 : decode prog_8_method_17_code 71 = .ok (.invokevirtual 100, 3) := by decide +kernel
theorem k_Store_replaceSizes : xCal m_Store_replaceSizes 3 := ⟨List.mem_append_right _ (List.mem_of_getElem? (i := 593) (by decide +kernel)), w_3, Nat.le_of_ble_eq_true rfl, ⟨by decide +kernel, by decide +kernel⟩, by decide +kernel, by decide +kernel, rfl⟩
theorem w_590 : Cond.methodLink "BeaconIndex$Store" 100 ⟨"BeaconIndex$Store", "replaceSizes", "(III)V"⟩ ∈ lw_tbl := List.mem_append_right _ (List.mem_of_getElem? (i := 590) (by decide +kernel))
theorem w_592 : Cond.instanceMethod ⟨"BeaconIndex$Store", "replaceSizes", "(III)V"⟩ ∈ lw_tbl := List.mem_append_right _ (List.mem_of_getElem? (i := 592) (by decide +kernel))
theorem sel_Store_replaceSizes : Cond.selects "BeaconIndex$Store" ⟨"BeaconIndex$Store", "replaceSizes", "(III)V"⟩ ⟨"BeaconIndex$Store", "replaceSizes", "(III)V"⟩ ∈ lw_tbl := List.mem_append_left _ (by decide +kernel)
theorem d_Store_mergeFrom_30 : decode prog_8_method_17_code 30 = .ok (.aload_n 0, 1) := by decide +kernel
theorem d_Store_mergeFrom_31 : decode prog_8_method_17_code 31 = .ok (.iload 6, 2) := by decide +kernel
theorem d_Store_mergeFrom_33 : decode prog_8_method_17_code 33 = .ok (.invokevirtual 72, 3) := by decide +kernel
theorem d_Store_mergeFrom_36 : decode prog_8_method_17_code 36 = .ok (.getfield 52, 3) := by decide +kernel
theorem d_Store_mergeFrom_39 : decode prog_8_method_17_code 39 = .ok (.ifCond .eq 16, 3) := by decide +kernel
theorem d_Store_mergeFrom_55 : decode prog_8_method_17_code 55 = .ok (.iinc 6 (-1), 3) := by decide +kernel
theorem d_Store_mergeFrom_58 : decode prog_8_method_17_code 58 = .ok (.goto (-34), 3) := by decide +kernel
theorem d_Store_mergeFrom_42 : decode prog_8_method_17_code 42 = .ok (.aload_n 0, 1) := by decide +kernel
theorem d_Store_mergeFrom_43 : decode prog_8_method_17_code 43 = .ok (.getfield 18, 3) := by decide +kernel
theorem d_Store_mergeFrom_46 : decode prog_8_method_17_code 46 = .ok (.iload 6, 2) := by decide +kernel
theorem d_Store_mergeFrom_48 : decode prog_8_method_17_code 48 = .ok (.invokevirtual 60, 3) := by decide +kernel
theorem v_Store_mergeFrom_24 {G : XG} {d : Nat} {h : XH} {Q : XV → XH → Prop} {X : Nat → XH → Prop} {x1 x2 x3 x4 x5 x6 : Int} (F : xFix h) (hyp : ((x6 < x3 → xiR (x4 - x3) ∧ xiR ((x4 - x3) - x5) ∧ (xwp G m_Store_replaceSizes (d + 4) 0 [xR 5, xI x1, xI x2, xI ((x4 - x3) - x5), xZ, xZ, xZ] [] h (fun v9 h9 => xwp G m_Store_mergeFrom (d + 5) 74 [xR 5, xZ, xZ, xZ, xZ, xI x5, xZ] (xpush v9 []) h9 Q X) X)) ∧ (¬ x6 < x3 → stok h ∧ (((xpl h (fat h x6) 5) = 0 → xiR (x6 + (-1)) ∧ (xwp G m_Store_mergeFrom (d + 5) 24 [xR 5, xI x1, xI x2, xI x3, xI x4, xI x5, xI (x6 + (-1))] [] h Q X)) ∧ (¬ (xpl h (fat h x6) 5) = 0 → (xwp G m_ArrayList_remove (d + 4) 0 [xR 7, xI x6, xZ, xZ] [] h (fun v9 h9 => xwp G m_Store_mergeFrom (d + 5) 51 [xR 5, xI x1, xI x2, xI x3, xI x4, xI x5, xI x6] (xpush v9 []) h9 Q X) X)))))) : xwp G m_Store_mergeFrom (d + 5) 24 [xR 5, xI x1, xI x2, xI x3, xI x4, xI x5, xI x6] [] h Q X := by
  have hnx9 : (93 : Int) ≤ xnx h := F.2.2
  refine xr_okL (fun hl9 => ?_)
  have r_x1 : -2147483648 ≤ x1 ∧ x1 ≤ 2147483647 := hl9 (xI x1) (.tail _ (.head _)) (Nat.le_of_ble_eq_true rfl)
  have r_x2 : -2147483648 ≤ x2 ∧ x2 ≤ 2147483647 := hl9 (xI x2) (.tail _ (.tail _ (.head _))) (Nat.le_of_ble_eq_true rfl)
  have r_x3 : -2147483648 ≤ x3 ∧ x3 ≤ 2147483647 := hl9 (xI x3) (.tail _ (.tail _ (.tail _ (.head _)))) (Nat.le_of_ble_eq_true rfl)
  have r_x4 : -2147483648 ≤ x4 ∧ x4 ≤ 2147483647 := hl9 (xI x4) (.tail _ (.tail _ (.tail _ (.tail _ (.head _))))) (Nat.le_of_ble_eq_true rfl)
  have r_x5 : -2147483648 ≤ x5 ∧ x5 ≤ 2147483647 := hl9 (xI x5) (.tail _ (.tail _ (.tail _ (.tail _ (.tail _ (.head _)))))) (Nat.le_of_ble_eq_true rfl)
  have r_x6 : -2147483648 ≤ x6 ∧ x6 ≤ 2147483647 := hl9 (xI x6) (.tail _ (.tail _ (.tail _ (.tail _ (.tail _ (.tail _ (.head _))))))) (Nat.le_of_ble_eq_true rfl)
  refine xr_iload (pc := 24) (i := 6) (hI := d_Store_mergeFrom_24) (hl := rfl) ?_
  refine xr_iload_n (pc := 26) (i := 3) (hI := d_Store_mergeFrom_26) (hi := rfl) (hl := rfl) ?_
  refine xr_icmp_lt (pc := 27) (tgt := 61) (hI := d_Store_mergeFrom_27) (ht := by decide) (fun q9 => ?_) (fun q9 => ?_)
  · replace hyp := hyp.1 q9
    have q1_ := q9
    clear q9
    refine xr_aload_n (pc := 61) (i := 0) (hI := d_Store_mergeFrom_61) (hi := rfl) (hl := rfl) ?_
    refine xr_iload_n (pc := 62) (i := 1) (hI := d_Store_mergeFrom_62) (hi := rfl) (hl := rfl) ?_
    refine xr_iload_n (pc := 63) (i := 2) (hI := d_Store_mergeFrom_63) (hi := rfl) (hl := rfl) ?_
    refine xr_iload (pc := 64) (i := 4) (hI := d_Store_mergeFrom_64) (hl := rfl) ?_
    refine xr_iload_n (pc := 66) (i := 3) (hI := d_Store_mergeFrom_66) (hi := rfl) (hl := rfl) ?_
    obtain ⟨c9, hyp⟩ := hyp
    refine xr_isub (pc := 67) (hI := d_Store_mergeFrom_67) (hr := c9) ?_
    refine xr_iload (pc := 68) (i := 5) (hI := d_Store_mergeFrom_68) (hl := rfl) ?_
    obtain ⟨c9, hyp⟩ := hyp
    refine xr_isub (pc := 70) (hI := d_Store_mergeFrom_70) (hr := c9) ?_
    exact xq_callV (pc := 71) (index := 100) (K := m_Store_replaceSizes) (As := [xI x1, xI x2, xI ((x4 - x3) - x5)]) (S := []) (L0 := [xR 5, xI x1, xI x2, xI ((x4 - x3) - x5), xZ, xZ, xZ]) (hI := d_Store_mergeFrom_71) (hK := k_Store_replaceSizes) (hlk := w_590) (hnoM := rfl) (hS8 := Nat.le_of_ble_eq_true rfl) (ci := 7) (N := 6) (C := "BeaconIndex$Store") (T := xF7) (hc := rfl) (hci := Nat.le_of_ble_eq_true rfl) (htb := (ft_5 F)) (hinst := w_592) (hsel := sel_Store_replaceSizes) (hlen := Nat.le_of_ble_eq_true rfl) (hst := rfl) (hL0 := rfl)  (xwp_mono hyp (fun v9 h9 q9 => xr_drop (L9 := [xR 5, xZ, xZ, xZ, xZ, xI x5, xZ]) (xdrs (xdrz (xdrz (xdrz (xdrz (xdrs (xdrz xdr0))))))) q9) (fun _ _ z9 => z9))
  · replace hyp := hyp.2 q9
    have q1_ := q9
    clear q9
    refine xr_aload_n (pc := 30) (i := 0) (hI := d_Store_mergeFrom_30) (hi := rfl) (hl := rfl) ?_
    refine xr_iload (pc := 31) (i := 6) (hI := d_Store_mergeFrom_31) (hl := rfl) ?_
    obtain ⟨c2_, hyp⟩ := hyp
    refine xq_callV (pc := 33) (index := 72) (K := m_Store_filedAt) (As := [xI x6]) (S := []) (L0 := [xR 5, xI x6]) (hI := d_Store_mergeFrom_33) (hK := k_Store_filedAt) (hlk := w_577) (hnoM := rfl) (hS8 := Nat.le_of_ble_eq_true rfl) (ci := 7) (N := 6) (C := "BeaconIndex$Store") (T := xF7) (hc := rfl) (hci := Nat.le_of_ble_eq_true rfl) (htb := (ft_5 F)) (hinst := w_578) (hsel := w_579) (hlen := Nat.le_of_ble_eq_true rfl) (hst := rfl) (hL0 := rfl)  (p_Store_filedAt F c2_ ?_)
    show xwp G m_Store_mergeFrom (d + 5) 36 [xR 5, xI x1, xI x2, xI x3, xI x4, xI x5, xI x6] [xR (fat h x6)] _ _ _
    have t3_ : xtg h (fat h x6) = 9 := (fat_ok F c2_ _).1
    refine xg_getfZ (pc := 36) (ci := 9) (k := 5) (N := 6) (v := (xpl h (fat h x6) 5)) (T := xF9) (hI := d_Store_mergeFrom_36) (hw := w_132) rfl xi9 (Or.inl rfl) (Nat.le_of_ble_eq_true rfl) (Nat.le_of_ble_eq_true rfl) rfl t3_ rfl (fun f4_ => ?_)
    refine xr_if_eq (pc := 39) (tgt := 55) (hI := d_Store_mergeFrom_39) (ht := by decide) (fun q9 => ?_) (fun q9 => ?_)
    · replace hyp := hyp.1 q9
      have q5_ := q9
      clear q9
      obtain ⟨c9, hyp⟩ := hyp
      refine xr_iinc (pc := 55) (i := 6) (L9 := [xR 5, xI x1, xI x2, xI x3, xI x4, xI x5, xI (x6 + (-1))]) (hI := d_Store_mergeFrom_55) (hl := rfl) (hn := Nat.le_of_ble_eq_true rfl) (hr := c9) (hL9 := rfl) ?_
      refine xr_goto (pc := 58) (tgt := 24) (hI := d_Store_mergeFrom_58) (ht := by decide) ?_
      exact hyp
    · replace hyp := hyp.2 q9
      have q5_ := q9
      clear q9
      refine xr_aload_n (pc := 42) (i := 0) (hI := d_Store_mergeFrom_42) (hi := rfl) (hl := rfl) ?_
      refine xg_getf (pc := 43) (ci := 7) (k := 1) (N := 6) (v9 := 2) (v := 7) (T := xF7) (hI := d_Store_mergeFrom_43) (hw := w_150) rfl xi7 (Or.inl rfl) (Nat.le_of_ble_eq_true rfl) (Nat.le_of_ble_eq_true rfl) rfl (ft_5 F) (fp_5_1 F) (fun f6_ => ?_)
      clear f6_
      refine xr_iload (pc := 46) (i := 6) (hI := d_Store_mergeFrom_46) (hl := rfl) ?_
      exact xq_callV (pc := 48) (index := 60) (K := m_ArrayList_remove) (As := [xI x6]) (S := []) (L0 := [xR 7, xI x6, xZ, xZ]) (hI := d_Store_mergeFrom_48) (hK := k_ArrayList_remove) (hlk := w_581) (hnoM := rfl) (hS8 := Nat.le_of_ble_eq_true rfl) (ci := 13) (N := 3) (C := "java/util/ArrayList") (T := xF13) (hc := rfl) (hci := Nat.le_of_ble_eq_true rfl) (htb := (ft_7 F)) (hinst := w_582) (hsel := w_583) (hlen := Nat.le_of_ble_eq_true rfl) (hst := rfl) (hL0 := rfl)  hyp
theorem d_Store_mergeFrom_51 : decode prog_8_method_17_code 51 = .ok (.pop, 1) := by decide +kernel
theorem d_Store_mergeFrom_52 : decode prog_8_method_17_code 52 = .ok (.iinc 5 1, 3) := by decide +kernel
theorem v_Store_mergeFrom_51 {G : XG} {d : Nat} {h : XH} {Q : XV → XH → Prop} {X : Nat → XH → Prop} {x1 x2 x3 x4 x5 x6 s0 : Int} (F : xFix h) (hyp : xiR (x5 + 1) ∧ xiR (x6 + (-1)) ∧ (xwp G m_Store_mergeFrom (d + 5) 24 [xR 5, xI x1, xI x2, xI x3, xI x4, xI (x5 + 1), xI (x6 + (-1))] [] h Q X)) : xwp G m_Store_mergeFrom (d + 5) 51 [xR 5, xI x1, xI x2, xI x3, xI x4, xI x5, xI x6] [xR s0] h Q X := by
  have hnx9 : (93 : Int) ≤ xnx h := F.2.2
  refine xr_okL (fun hl9 => ?_)
  have r_x1 : -2147483648 ≤ x1 ∧ x1 ≤ 2147483647 := hl9 (xI x1) (.tail _ (.head _)) (Nat.le_of_ble_eq_true rfl)
  have r_x2 : -2147483648 ≤ x2 ∧ x2 ≤ 2147483647 := hl9 (xI x2) (.tail _ (.tail _ (.head _))) (Nat.le_of_ble_eq_true rfl)
  have r_x3 : -2147483648 ≤ x3 ∧ x3 ≤ 2147483647 := hl9 (xI x3) (.tail _ (.tail _ (.tail _ (.head _)))) (Nat.le_of_ble_eq_true rfl)
  have r_x4 : -2147483648 ≤ x4 ∧ x4 ≤ 2147483647 := hl9 (xI x4) (.tail _ (.tail _ (.tail _ (.tail _ (.head _))))) (Nat.le_of_ble_eq_true rfl)
  have r_x5 : -2147483648 ≤ x5 ∧ x5 ≤ 2147483647 := hl9 (xI x5) (.tail _ (.tail _ (.tail _ (.tail _ (.tail _ (.head _)))))) (Nat.le_of_ble_eq_true rfl)
  have r_x6 : -2147483648 ≤ x6 ∧ x6 ≤ 2147483647 := hl9 (xI x6) (.tail _ (.tail _ (.tail _ (.tail _ (.tail _ (.tail _ (.head _))))))) (Nat.le_of_ble_eq_true rfl)
  refine xr_pop (pc := 51) (hI := d_Store_mergeFrom_51) (hv := rfl) ?_
  obtain ⟨c9, hyp⟩ := hyp
  refine xr_iinc (pc := 52) (i := 5) (L9 := [xR 5, xI x1, xI x2, xI x3, xI x4, xI (x5 + 1), xI x6]) (hI := d_Store_mergeFrom_52) (hl := rfl) (hn := Nat.le_of_ble_eq_true rfl) (hr := c9) (hL9 := rfl) ?_
  obtain ⟨c9, hyp⟩ := hyp
  refine xr_iinc (pc := 55) (i := 6) (L9 := [xR 5, xI x1, xI x2, xI x3, xI x4, xI (x5 + 1), xI (x6 + (-1))]) (hI := d_Store_mergeFrom_55) (hl := rfl) (hn := Nat.le_of_ble_eq_true rfl) (hr := c9) (hL9 := rfl) ?_
  refine xr_goto (pc := 58) (tgt := 24) (hI := d_Store_mergeFrom_58) (ht := by decide) ?_
  exact hyp
theorem d_Store_mergeFrom_74 : decode prog_8_method_17_code 74 = .ok (.aload_n 0, 1) := by decide +kernel
theorem d_Store_mergeFrom_75 : decode prog_8_method_17_code 75 = .ok (.dup, 1) := by decide +kernel
theorem d_Store_mergeFrom_76 : decode prog_8_method_17_code 76 = .ok (.getfield 38, 3) := by decide +kernel
theorem w_156 : Cond.fieldLink "BeaconIndex$Store" 38 "BeaconIndex$Store" "mergeCount" "I" ∈ lw_tbl := List.mem_append_right _ (List.mem_of_getElem? (i := 156) (by decide +kernel))
theorem d_Store_mergeFrom_79 : decode prog_8_method_17_code 79 = .ok (.iconst 1, 1) := by decide +kernel
theorem d_Store_mergeFrom_80 : decode prog_8_method_17_code 80 = .ok (.iadd, 1) := by decide +kernel
theorem d_Store_mergeFrom_81 : decode prog_8_method_17_code 81 = .ok (.putfield 38, 3) := by decide +kernel
theorem xfk_5_5 : xfree 5 5 = true := by decide +kernel
theorem d_Store_mergeFrom_84 : decode prog_8_method_17_code 84 = .ok (.iload 5, 2) := by decide +kernel
theorem d_Store_mergeFrom_86 : decode prog_8_method_17_code 86 = .ok (.ireturn, 1) := by decide +kernel
theorem v_Store_mergeFrom_74 {G : XG} {d : Nat} {h : XH} {Q : XV → XH → Prop} {X : Nat → XH → Prop} {x5 : Int} (F : xFix h) (hyp : xiR ((xpl h 5 5) + 1) ∧ (xFix (xst h 5 5 ((xpl h 5 5) + 1)) → Q (xI x5) (xst h 5 5 ((xpl h 5 5) + 1)))) : xwp G m_Store_mergeFrom (d + 5) 74 [xR 5, xZ, xZ, xZ, xZ, xI x5, xZ] [] h Q X := by
  have hnx9 : (93 : Int) ≤ xnx h := F.2.2
  refine xr_okL (fun hl9 => ?_)
  have r_x5 : -2147483648 ≤ x5 ∧ x5 ≤ 2147483647 := hl9 (xI x5) (.tail _ (.tail _ (.tail _ (.tail _ (.tail _ (.head _)))))) (Nat.le_of_ble_eq_true rfl)
  refine xr_aload_n (pc := 74) (i := 0) (hI := d_Store_mergeFrom_74) (hi := rfl) (hl := rfl) ?_
  refine xr_dup (pc := 75) (hI := d_Store_mergeFrom_75) (hv := rfl) ?_
  refine xg_getf (pc := 76) (ci := 7) (k := 5) (N := 6) (v9 := 0) (v := (xpl h 5 5)) (T := xF7) (hI := d_Store_mergeFrom_76) (hw := w_156) rfl xi7 (Or.inl rfl) (Nat.le_of_ble_eq_true rfl) (Nat.le_of_ble_eq_true rfl) rfl (ft_5 F) rfl (fun f1_ => ?_)
  replace f1_ : -2147483648 ≤ (xpl h 5 5) ∧ (xpl h 5 5) ≤ 2147483647 := f1_
  refine xr_iconst (pc := 79) (hI := d_Store_mergeFrom_79) (hr := by decide) ?_
  obtain ⟨c9, hyp⟩ := hyp
  refine xr_iadd (pc := 80) (hI := d_Store_mergeFrom_80) (hr := c9) ?_
  refine xr_putf (pc := 81) (ci := 7) (k := 5) (N := 6) (v9 := 0) (T := xF7) (tF := xT7) (hI := d_Store_mergeFrom_81) (hw := w_156) rfl xi7 xt7 xn7 (Or.inl rfl) (Nat.le_of_ble_eq_true rfl) (Nat.le_of_ble_eq_true rfl) rfl xfit_i rfl (ft_5 F) (by decide) (fun z => z) ?_
  have F2_ : xFix (xst h 5 5 ((xpl h 5 5) + 1)) := F.stL xfk_5_5
  refine xr_iload (pc := 84) (i := 5) (hI := d_Store_mergeFrom_84) (hl := rfl) ?_
  refine xr_ireturn (S := []) (pc := 86) (hI := d_Store_mergeFrom_86) (hr := rfl) ?_
  exact hyp F2_
abbrev m_Store_mergeWhereDue : XM := (⟨"BeaconIndex$Store", "mergeWhereDue", "()V"⟩, prog_8_method_14_code, 3, none, [])
theorem d_Store_mergeWhereDue_0 : decode prog_8_method_14_code 0 = .ok (.aload_n 0, 1) := by decide +kernel
theorem d_Store_mergeWhereDue_1 : decode prog_8_method_14_code 1 = .ok (.invokevirtual 87, 3) := by decide +kernel
theorem k_Store_firstOfThreeAlike : xCal m_Store_firstOfThreeAlike 0 := ⟨List.mem_append_right _ (List.mem_of_getElem? (i := 560) (by decide +kernel)), w_3, Nat.le_of_ble_eq_true rfl, ⟨by decide +kernel, by decide +kernel⟩, by decide +kernel, by decide +kernel, rfl⟩
theorem w_557 : Cond.methodLink "BeaconIndex$Store" 87 ⟨"BeaconIndex$Store", "firstOfThreeAlike", "()I"⟩ ∈ lw_tbl := List.mem_append_right _ (List.mem_of_getElem? (i := 557) (by decide +kernel))
theorem w_559 : Cond.instanceMethod ⟨"BeaconIndex$Store", "firstOfThreeAlike", "()I"⟩ ∈ lw_tbl := List.mem_append_right _ (List.mem_of_getElem? (i := 559) (by decide +kernel))
theorem sel_Store_firstOfThreeAlike : Cond.selects "BeaconIndex$Store" ⟨"BeaconIndex$Store", "firstOfThreeAlike", "()I"⟩ ⟨"BeaconIndex$Store", "firstOfThreeAlike", "()I"⟩ ∈ lw_tbl := List.mem_append_left _ (by decide +kernel)
theorem d_Store_mergeWhereDue_4 : decode prog_8_method_14_code 4 = .ok (.istore_n 1, 1) := by decide +kernel
theorem d_Store_mergeWhereDue_5 : decode prog_8_method_14_code 5 = .ok (.iconst 0, 1) := by decide +kernel
theorem d_Store_mergeWhereDue_6 : decode prog_8_method_14_code 6 = .ok (.istore_n 2, 1) := by decide +kernel
theorem v_Store_mergeWhereDue_0 {G : XG} {d : Nat} {h : XH} {Q : XV → XH → Prop} {X : Nat → XH → Prop} (F : xFix h) (hyp : stok h ∧ (xwp G m_Store_mergeWhereDue (d + 6) 7 [xR 5, xI (f3 (szL h)), xI 0] [] h Q X)) : xwp G m_Store_mergeWhereDue (d + 6) 0 [xR 5, xZ, xZ] [] h Q X := by
  have hnx9 : (93 : Int) ≤ xnx h := F.2.2
  refine xr_aload_n (pc := 0) (i := 0) (hI := d_Store_mergeWhereDue_0) (hi := rfl) (hl := rfl) ?_
  obtain ⟨c1_, hyp⟩ := hyp
  refine xq_callV (pc := 1) (index := 87) (K := m_Store_firstOfThreeAlike) (As := []) (S := []) (L0 := [xR 5, xZ, xZ]) (hI := d_Store_mergeWhereDue_1) (hK := k_Store_firstOfThreeAlike) (hlk := w_557) (hnoM := rfl) (hS8 := Nat.le_of_ble_eq_true rfl) (ci := 7) (N := 6) (C := "BeaconIndex$Store") (T := xF7) (hc := rfl) (hci := Nat.le_of_ble_eq_true rfl) (htb := (ft_5 F)) (hinst := w_559) (hsel := sel_Store_firstOfThreeAlike) (hlen := Nat.le_of_ble_eq_true rfl) (hst := rfl) (hL0 := rfl)  (p_Store_firstOfThreeAlike F c1_ ?_)
  show xwp G m_Store_mergeWhereDue (d + 6) 4 [xR 5, xZ, xZ] [xI (f3 (szL h))] _ _ _
  have f2_ : -1 ≤ f3 (szL h) := (f3_rng c1_).1
  have f3_ : f3 (szL h) ≤ xpl h 5 4 := (f3_rng c1_).2
  refine xr_istore_n (pc := 4) (i := 1) (L9 := [xR 5, xI (f3 (szL h)), xZ]) (hI := d_Store_mergeWhereDue_4) (hi := rfl) (hn := Nat.le_of_ble_eq_true rfl) (hL9 := rfl) ?_
  refine xr_iconst (pc := 5) (hI := d_Store_mergeWhereDue_5) (hr := by decide) ?_
  refine xr_istore_n (pc := 6) (i := 2) (L9 := [xR 5, xI (f3 (szL h)), xI 0]) (hI := d_Store_mergeWhereDue_6) (hi := rfl) (hn := Nat.le_of_ble_eq_true rfl) (hL9 := rfl) ?_
  exact hyp
theorem d_Store_mergeWhereDue_7 : decode prog_8_method_14_code 7 = .ok (.iload_n 2, 1) := by decide +kernel
theorem d_Store_mergeWhereDue_8 : decode prog_8_method_14_code 8 = .ok (.bipush 60, 2) := by decide +kernel
theorem d_Store_mergeWhereDue_10 : decode prog_8_method_14_code 10 = .ok (.if_icmp .ge 26, 3) := by decide +kernel
theorem d_Store_mergeWhereDue_36 : decode prog_8_method_14_code 36 = .ok (.return_, 1) := by decide +kernel
theorem d_Store_mergeWhereDue_13 : decode prog_8_method_14_code 13 = .ok (.iload_n 1, 1) := by decide +kernel
theorem d_Store_mergeWhereDue_14 : decode prog_8_method_14_code 14 = .ok (.iconst (-1), 1) := by decide +kernel
theorem d_Store_mergeWhereDue_15 : decode prog_8_method_14_code 15 = .ok (.if_icmp .eq 21, 3) := by decide +kernel
theorem d_Store_mergeWhereDue_18 : decode prog_8_method_14_code 18 = .ok (.aload_n 0, 1) := by decide +kernel
theorem d_Store_mergeWhereDue_19 : decode prog_8_method_14_code 19 = .ok (.iload_n 1, 1) := by decide +kernel
theorem d_Store_mergeWhereDue_20 : decode prog_8_method_14_code 20 = .ok (.iconst 3, 1) := by decide +kernel
theorem d_Store_mergeWhereDue_21 : decode prog_8_method_14_code 21 = .ok (.invokevirtual 90, 3) := by decide +kernel
theorem k_Store_mergeFrom : xCal m_Store_mergeFrom 2 := ⟨List.mem_append_right _ (List.mem_of_getElem? (i := 572) (by decide +kernel)), w_3, Nat.le_of_ble_eq_true rfl, ⟨by decide +kernel, by decide +kernel⟩, by decide +kernel, by decide +kernel, rfl⟩
theorem w_569 : Cond.methodLink "BeaconIndex$Store" 90 ⟨"BeaconIndex$Store", "mergeFrom", "(II)I"⟩ ∈ lw_tbl := List.mem_append_right _ (List.mem_of_getElem? (i := 569) (by decide +kernel))
theorem w_571 : Cond.instanceMethod ⟨"BeaconIndex$Store", "mergeFrom", "(II)I"⟩ ∈ lw_tbl := List.mem_append_right _ (List.mem_of_getElem? (i := 571) (by decide +kernel))
theorem sel_Store_mergeFrom : Cond.selects "BeaconIndex$Store" ⟨"BeaconIndex$Store", "mergeFrom", "(II)I"⟩ ⟨"BeaconIndex$Store", "mergeFrom", "(II)I"⟩ ∈ lw_tbl := List.mem_append_left _ (by decide +kernel)
theorem v_Store_mergeWhereDue_7 {G : XG} {d : Nat} {h : XH} {Q : XV → XH → Prop} {X : Nat → XH → Prop} {x1 x2 : Int} (F : xFix h) (hyp : (((60 : Int) ≤ x2 → (Q xN h)) ∧ (¬ (60 : Int) ≤ x2 → ((x1 = (-1) → (Q xN h)) ∧ (¬ x1 = (-1) → (xwp G m_Store_mergeFrom (d + 5) 0 [xR 5, xI x1, xI 3, xZ, xZ, xZ, xZ] [] h (fun v9 h9 => xwp G m_Store_mergeWhereDue (d + 6) 24 [xR 5, xZ, xI x2] (xpush v9 []) h9 Q X) X)))))) : xwp G m_Store_mergeWhereDue (d + 6) 7 [xR 5, xI x1, xI x2] [] h Q X := by
  have hnx9 : (93 : Int) ≤ xnx h := F.2.2
  refine xr_okL (fun hl9 => ?_)
  have r_x1 : -2147483648 ≤ x1 ∧ x1 ≤ 2147483647 := hl9 (xI x1) (.tail _ (.head _)) (Nat.le_of_ble_eq_true rfl)
  have r_x2 : -2147483648 ≤ x2 ∧ x2 ≤ 2147483647 := hl9 (xI x2) (.tail _ (.tail _ (.head _))) (Nat.le_of_ble_eq_true rfl)
  refine xr_iload_n (pc := 7) (i := 2) (hI := d_Store_mergeWhereDue_7) (hi := rfl) (hl := rfl) ?_
  refine xr_bipush (pc := 8) (hI := d_Store_mergeWhereDue_8) (hr := by decide) (hv := by decide) ?_
  refine xr_icmp_ge (pc := 10) (tgt := 36) (hI := d_Store_mergeWhereDue_10) (ht := by decide) (fun q9 => ?_) (fun q9 => ?_)
  · replace hyp := hyp.1 q9
    have q1_ := q9
    clear q9
    refine xr_return (S := []) (pc := 36) (hI := d_Store_mergeWhereDue_36) (hr := rfl) ?_
    exact hyp
  · replace hyp := hyp.2 q9
    have q1_ := q9
    clear q9
    refine xr_iload_n (pc := 13) (i := 1) (hI := d_Store_mergeWhereDue_13) (hi := rfl) (hl := rfl) ?_
    refine xr_iconst (pc := 14) (hI := d_Store_mergeWhereDue_14) (hr := by decide) ?_
    refine xr_icmp_eq (pc := 15) (tgt := 36) (hI := d_Store_mergeWhereDue_15) (ht := by decide) (fun q9 => ?_) (fun q9 => ?_)
    · replace hyp := hyp.1 q9
      have q2_ := q9
      clear q9
      refine xr_return (S := []) (pc := 36) (hI := d_Store_mergeWhereDue_36) (hr := rfl) ?_
      exact hyp
    · replace hyp := hyp.2 q9
      have q2_ := q9
      clear q9
      refine xr_aload_n (pc := 18) (i := 0) (hI := d_Store_mergeWhereDue_18) (hi := rfl) (hl := rfl) ?_
      refine xr_iload_n (pc := 19) (i := 1) (hI := d_Store_mergeWhereDue_19) (hi := rfl) (hl := rfl) ?_
      refine xr_iconst (pc := 20) (hI := d_Store_mergeWhereDue_20) (hr := by decide) ?_
      exact xq_callV (pc := 21) (index := 90) (K := m_Store_mergeFrom) (As := [xI x1, xI 3]) (S := []) (L0 := [xR 5, xI x1, xI 3, xZ, xZ, xZ, xZ]) (hI := d_Store_mergeWhereDue_21) (hK := k_Store_mergeFrom) (hlk := w_569) (hnoM := rfl) (hS8 := Nat.le_of_ble_eq_true rfl) (ci := 7) (N := 6) (C := "BeaconIndex$Store") (T := xF7) (hc := rfl) (hci := Nat.le_of_ble_eq_true rfl) (htb := (ft_5 F)) (hinst := w_571) (hsel := sel_Store_mergeFrom) (hlen := Nat.le_of_ble_eq_true rfl) (hst := rfl) (hL0 := rfl)  (xwp_mono hyp (fun v9 h9 q9 => xr_drop (L9 := [xR 5, xZ, xI x2]) (xdrs (xdrz (xdrs xdr0))) q9) (fun _ _ z9 => z9))
theorem d_Store_mergeWhereDue_24 : decode prog_8_method_14_code 24 = .ok (.pop, 1) := by decide +kernel
theorem d_Store_mergeWhereDue_25 : decode prog_8_method_14_code 25 = .ok (.aload_n 0, 1) := by decide +kernel
theorem d_Store_mergeWhereDue_26 : decode prog_8_method_14_code 26 = .ok (.invokevirtual 87, 3) := by decide +kernel
theorem d_Store_mergeWhereDue_29 : decode prog_8_method_14_code 29 = .ok (.istore_n 1, 1) := by decide +kernel
theorem d_Store_mergeWhereDue_30 : decode prog_8_method_14_code 30 = .ok (.iinc 2 1, 3) := by decide +kernel
theorem d_Store_mergeWhereDue_33 : decode prog_8_method_14_code 33 = .ok (.goto (-26), 3) := by decide +kernel
theorem v_Store_mergeWhereDue_24 {G : XG} {d : Nat} {h : XH} {Q : XV → XH → Prop} {X : Nat → XH → Prop} {x2 s0 : Int} (F : xFix h) (hyp : stok h ∧ xiR (x2 + 1) ∧ (xwp G m_Store_mergeWhereDue (d + 6) 7 [xR 5, xI (f3 (szL h)), xI (x2 + 1)] [] h Q X)) : xwp G m_Store_mergeWhereDue (d + 6) 24 [xR 5, xZ, xI x2] [xI s0] h Q X := by
  have hnx9 : (93 : Int) ≤ xnx h := F.2.2
  refine xr_okL (fun hl9 => ?_)
  have r_x2 : -2147483648 ≤ x2 ∧ x2 ≤ 2147483647 := hl9 (xI x2) (.tail _ (.tail _ (.head _))) (Nat.le_of_ble_eq_true rfl)
  refine xr_okS (fun hs9 => ?_)
  have r_s0 : -2147483648 ≤ s0 ∧ s0 ≤ 2147483647 := hs9 (xI s0) (.head _)
  refine xr_pop (pc := 24) (hI := d_Store_mergeWhereDue_24) (hv := rfl) ?_
  refine xr_aload_n (pc := 25) (i := 0) (hI := d_Store_mergeWhereDue_25) (hi := rfl) (hl := rfl) ?_
  obtain ⟨c1_, hyp⟩ := hyp
  refine xq_callV (pc := 26) (index := 87) (K := m_Store_firstOfThreeAlike) (As := []) (S := []) (L0 := [xR 5, xZ, xZ]) (hI := d_Store_mergeWhereDue_26) (hK := k_Store_firstOfThreeAlike) (hlk := w_557) (hnoM := rfl) (hS8 := Nat.le_of_ble_eq_true rfl) (ci := 7) (N := 6) (C := "BeaconIndex$Store") (T := xF7) (hc := rfl) (hci := Nat.le_of_ble_eq_true rfl) (htb := (ft_5 F)) (hinst := w_559) (hsel := sel_Store_firstOfThreeAlike) (hlen := Nat.le_of_ble_eq_true rfl) (hst := rfl) (hL0 := rfl)  (p_Store_firstOfThreeAlike F c1_ ?_)
  show xwp G m_Store_mergeWhereDue (d + 6) 29 [xR 5, xZ, xI x2] [xI (f3 (szL h))] _ _ _
  have f2_ : -1 ≤ f3 (szL h) := (f3_rng c1_).1
  have f3_ : f3 (szL h) ≤ xpl h 5 4 := (f3_rng c1_).2
  refine xr_istore_n (pc := 29) (i := 1) (L9 := [xR 5, xI (f3 (szL h)), xI x2]) (hI := d_Store_mergeWhereDue_29) (hi := rfl) (hn := Nat.le_of_ble_eq_true rfl) (hL9 := rfl) ?_
  obtain ⟨c9, hyp⟩ := hyp
  refine xr_iinc (pc := 30) (i := 2) (L9 := [xR 5, xI (f3 (szL h)), xI (x2 + 1)]) (hI := d_Store_mergeWhereDue_30) (hl := rfl) (hn := Nat.le_of_ble_eq_true rfl) (hr := c9) (hL9 := rfl) ?_
  refine xr_goto (pc := 33) (tgt := 7) (hI := d_Store_mergeWhereDue_33) (ht := by decide) ?_
  exact hyp
abbrev m_Store_mergeEverything : XM := (⟨"BeaconIndex$Store", "mergeEverything", "()I"⟩, prog_8_method_15_code, 1, (some .int), [])
theorem d_Store_mergeEverything_0 : decode prog_8_method_15_code 0 = .ok (.aload_n 0, 1) := by decide +kernel
theorem d_Store_mergeEverything_1 : decode prog_8_method_15_code 1 = .ok (.getfield 34, 3) := by decide +kernel
theorem d_Store_mergeEverything_4 : decode prog_8_method_15_code 4 = .ok (.ifCond .eq 19, 3) := by decide +kernel
theorem d_Store_mergeEverything_23 : decode prog_8_method_15_code 23 = .ok (.iconst 0, 1) := by decide +kernel
theorem d_Store_mergeEverything_24 : decode prog_8_method_15_code 24 = .ok (.ireturn, 1) := by decide +kernel
theorem d_Store_mergeEverything_7 : decode prog_8_method_15_code 7 = .ok (.aload_n 0, 1) := by decide +kernel
theorem d_Store_mergeEverything_8 : decode prog_8_method_15_code 8 = .ok (.getfield 34, 3) := by decide +kernel
theorem d_Store_mergeEverything_11 : decode prog_8_method_15_code 11 = .ok (.iconst 1, 1) := by decide +kernel
theorem d_Store_mergeEverything_12 : decode prog_8_method_15_code 12 = .ok (.if_icmp .ne 13, 3) := by decide +kernel
theorem d_Store_mergeEverything_25 : decode prog_8_method_15_code 25 = .ok (.aload_n 0, 1) := by decide +kernel
theorem d_Store_mergeEverything_26 : decode prog_8_method_15_code 26 = .ok (.iconst 0, 1) := by decide +kernel
theorem d_Store_mergeEverything_27 : decode prog_8_method_15_code 27 = .ok (.aload_n 0, 1) := by decide +kernel
theorem d_Store_mergeEverything_28 : decode prog_8_method_15_code 28 = .ok (.getfield 34, 3) := by decide +kernel
theorem d_Store_mergeEverything_31 : decode prog_8_method_15_code 31 = .ok (.invokevirtual 90, 3) := by decide +kernel
theorem d_Store_mergeEverything_15 : decode prog_8_method_15_code 15 = .ok (.aload_n 0, 1) := by decide +kernel
theorem d_Store_mergeEverything_16 : decode prog_8_method_15_code 16 = .ok (.iconst 0, 1) := by decide +kernel
theorem d_Store_mergeEverything_17 : decode prog_8_method_15_code 17 = .ok (.invokevirtual 94, 3) := by decide +kernel
theorem k_Store_markedAmong : xCal m_Store_markedAmong 1 := ⟨List.mem_append_right _ (List.mem_of_getElem? (i := 761) (by decide +kernel)), w_3, Nat.le_of_ble_eq_true rfl, ⟨by decide +kernel, by decide +kernel⟩, by decide +kernel, by decide +kernel, rfl⟩
theorem w_758 : Cond.methodLink "BeaconIndex$Store" 94 ⟨"BeaconIndex$Store", "markedAmong", "(I)I"⟩ ∈ lw_tbl := List.mem_append_right _ (List.mem_of_getElem? (i := 758) (by decide +kernel))
theorem w_759 : Cond.instanceMethod ⟨"BeaconIndex$Store", "markedAmong", "(I)I"⟩ ∈ lw_tbl := List.mem_append_right _ (List.mem_of_getElem? (i := 759) (by decide +kernel))
theorem w_760 : Cond.selects "BeaconIndex$Store" ⟨"BeaconIndex$Store", "markedAmong", "(I)I"⟩ ⟨"BeaconIndex$Store", "markedAmong", "(I)I"⟩ ∈ lw_tbl := List.mem_append_right _ (List.mem_of_getElem? (i := 760) (by decide +kernel))
theorem d_Store_mergeEverything_20 : decode prog_8_method_15_code 20 = .ok (.ifCond .ne 5, 3) := by decide +kernel
theorem v_Store_mergeEverything_0 {G : XG} {d : Nat} {h : XH} {Q : XV → XH → Prop} {X : Nat → XH → Prop} (F : xFix h) (hyp : (((xpl h 5 4) = 0 → (Q (xI 0) h)) ∧ (¬ (xpl h 5 4) = 0 → (((xpl h 5 4) = 1 → stok h ∧ (((mkH h 0) = 0 → (Q (xI 0) h)) ∧ (¬ (mkH h 0) = 0 → (xwp G m_Store_mergeFrom (d + 5) 0 [xR 5, xI 0, xI (xpl h 5 4), xZ, xZ, xZ, xZ] [] h (fun v9 h9 => xwp G m_Store_mergeEverything (d + 6) 34 [xZ] (xpush v9 []) h9 Q X) X)))) ∧ (¬ (xpl h 5 4) = 1 → (xwp G m_Store_mergeFrom (d + 5) 0 [xR 5, xI 0, xI (xpl h 5 4), xZ, xZ, xZ, xZ] [] h (fun v9 h9 => xwp G m_Store_mergeEverything (d + 6) 34 [xZ] (xpush v9 []) h9 Q X) X)))))) : xwp G m_Store_mergeEverything (d + 6) 0 [xR 5] [] h Q X := by
  have hnx9 : (93 : Int) ≤ xnx h := F.2.2
  refine xr_aload_n (pc := 0) (i := 0) (hI := d_Store_mergeEverything_0) (hi := rfl) (hl := rfl) ?_
  refine xg_getf (pc := 1) (ci := 7) (k := 4) (N := 6) (v9 := 0) (v := (xpl h 5 4)) (T := xF7) (hI := d_Store_mergeEverything_1) (hw := w_154) rfl xi7 (Or.inl rfl) (Nat.le_of_ble_eq_true rfl) (Nat.le_of_ble_eq_true rfl) rfl (ft_5 F) rfl (fun f1_ => ?_)
  replace f1_ : -2147483648 ≤ (xpl h 5 4) ∧ (xpl h 5 4) ≤ 2147483647 := f1_
  refine xr_if_eq (pc := 4) (tgt := 23) (hI := d_Store_mergeEverything_4) (ht := by decide) (fun q9 => ?_) (fun q9 => ?_)
  · replace hyp := hyp.1 q9
    have q2_ := q9
    clear q9
    refine xr_iconst (pc := 23) (hI := d_Store_mergeEverything_23) (hr := by decide) ?_
    refine xr_ireturn (S := []) (pc := 24) (hI := d_Store_mergeEverything_24) (hr := rfl) ?_
    exact hyp
  · replace hyp := hyp.2 q9
    have q2_ := q9
    clear q9
    refine xr_aload_n (pc := 7) (i := 0) (hI := d_Store_mergeEverything_7) (hi := rfl) (hl := rfl) ?_
    refine xg_getf (pc := 8) (ci := 7) (k := 4) (N := 6) (v9 := 0) (v := (xpl h 5 4)) (T := xF7) (hI := d_Store_mergeEverything_8) (hw := w_154) rfl xi7 (Or.inl rfl) (Nat.le_of_ble_eq_true rfl) (Nat.le_of_ble_eq_true rfl) rfl (ft_5 F) rfl (fun f3_ => ?_)
    replace f3_ : -2147483648 ≤ (xpl h 5 4) ∧ (xpl h 5 4) ≤ 2147483647 := f3_
    refine xr_iconst (pc := 11) (hI := d_Store_mergeEverything_11) (hr := by decide) ?_
    refine xr_icmp_ne (pc := 12) (tgt := 25) (hI := d_Store_mergeEverything_12) (ht := by decide) (fun q9 => ?_) (fun q9 => ?_)
    · replace hyp := hyp.2 q9
      have q4_ := q9
      clear q9
      refine xr_aload_n (pc := 25) (i := 0) (hI := d_Store_mergeEverything_25) (hi := rfl) (hl := rfl) ?_
      refine xr_iconst (pc := 26) (hI := d_Store_mergeEverything_26) (hr := by decide) ?_
      refine xr_aload_n (pc := 27) (i := 0) (hI := d_Store_mergeEverything_27) (hi := rfl) (hl := rfl) ?_
      refine xg_getf (pc := 28) (ci := 7) (k := 4) (N := 6) (v9 := 0) (v := (xpl h 5 4)) (T := xF7) (hI := d_Store_mergeEverything_28) (hw := w_154) rfl xi7 (Or.inl rfl) (Nat.le_of_ble_eq_true rfl) (Nat.le_of_ble_eq_true rfl) rfl (ft_5 F) rfl (fun f5_ => ?_)
      replace f5_ : -2147483648 ≤ (xpl h 5 4) ∧ (xpl h 5 4) ≤ 2147483647 := f5_
      exact xq_callV (pc := 31) (index := 90) (K := m_Store_mergeFrom) (As := [xI 0, xI (xpl h 5 4)]) (S := []) (L0 := [xR 5, xI 0, xI (xpl h 5 4), xZ, xZ, xZ, xZ]) (hI := d_Store_mergeEverything_31) (hK := k_Store_mergeFrom) (hlk := w_569) (hnoM := rfl) (hS8 := Nat.le_of_ble_eq_true rfl) (ci := 7) (N := 6) (C := "BeaconIndex$Store") (T := xF7) (hc := rfl) (hci := Nat.le_of_ble_eq_true rfl) (htb := (ft_5 F)) (hinst := w_571) (hsel := sel_Store_mergeFrom) (hlen := Nat.le_of_ble_eq_true rfl) (hst := rfl) (hL0 := rfl)  (xwp_mono hyp (fun v9 h9 q9 => xr_drop (L9 := [xZ]) (xdrz xdr0) q9) (fun _ _ z9 => z9))
    · replace hyp := hyp.1 q9
      have q4_ := q9
      clear q9
      refine xr_aload_n (pc := 15) (i := 0) (hI := d_Store_mergeEverything_15) (hi := rfl) (hl := rfl) ?_
      refine xr_iconst (pc := 16) (hI := d_Store_mergeEverything_16) (hr := by decide) ?_
      obtain ⟨c6_, hyp⟩ := hyp
      refine xq_callV (pc := 17) (index := 94) (K := m_Store_markedAmong) (As := [xI 0]) (S := []) (L0 := [xR 5, xI 0, xZ, xZ, xZ]) (hI := d_Store_mergeEverything_17) (hK := k_Store_markedAmong) (hlk := w_758) (hnoM := rfl) (hS8 := Nat.le_of_ble_eq_true rfl) (ci := 7) (N := 6) (C := "BeaconIndex$Store") (T := xF7) (hc := rfl) (hci := Nat.le_of_ble_eq_true rfl) (htb := (ft_5 F)) (hinst := w_759) (hsel := w_760) (hlen := Nat.le_of_ble_eq_true rfl) (hst := rfl) (hL0 := rfl)  (p_Store_markedAmong F c6_ ?_)
      show xwp G m_Store_mergeEverything (d + 6) 20 [xR 5] [xI (mkH h 0)] _ _ _
      have f7_ : 0 ≤ (mkH h 0) ∧ (mkH h 0) ≤ 60 := mkH_rng c6_ _
      refine xr_if_ne (pc := 20) (tgt := 25) (hI := d_Store_mergeEverything_20) (ht := by decide) (fun q9 => ?_) (fun q9 => ?_)
      · replace hyp := hyp.2 q9
        have q8_ := q9
        clear q9
        refine xr_aload_n (pc := 25) (i := 0) (hI := d_Store_mergeEverything_25) (hi := rfl) (hl := rfl) ?_
        refine xr_iconst (pc := 26) (hI := d_Store_mergeEverything_26) (hr := by decide) ?_
        refine xr_aload_n (pc := 27) (i := 0) (hI := d_Store_mergeEverything_27) (hi := rfl) (hl := rfl) ?_
        refine xg_getf (pc := 28) (ci := 7) (k := 4) (N := 6) (v9 := 0) (v := (xpl h 5 4)) (T := xF7) (hI := d_Store_mergeEverything_28) (hw := w_154) rfl xi7 (Or.inl rfl) (Nat.le_of_ble_eq_true rfl) (Nat.le_of_ble_eq_true rfl) rfl (ft_5 F) rfl (fun f9_ => ?_)
        replace f9_ : -2147483648 ≤ (xpl h 5 4) ∧ (xpl h 5 4) ≤ 2147483647 := f9_
        exact xq_callV (pc := 31) (index := 90) (K := m_Store_mergeFrom) (As := [xI 0, xI (xpl h 5 4)]) (S := []) (L0 := [xR 5, xI 0, xI (xpl h 5 4), xZ, xZ, xZ, xZ]) (hI := d_Store_mergeEverything_31) (hK := k_Store_mergeFrom) (hlk := w_569) (hnoM := rfl) (hS8 := Nat.le_of_ble_eq_true rfl) (ci := 7) (N := 6) (C := "BeaconIndex$Store") (T := xF7) (hc := rfl) (hci := Nat.le_of_ble_eq_true rfl) (htb := (ft_5 F)) (hinst := w_571) (hsel := sel_Store_mergeFrom) (hlen := Nat.le_of_ble_eq_true rfl) (hst := rfl) (hL0 := rfl)  (xwp_mono hyp (fun v9 h9 q9 => xr_drop (L9 := [xZ]) (xdrz xdr0) q9) (fun _ _ z9 => z9))
      · replace hyp := hyp.1 q9
        have q8_ := q9
        clear q9
        refine xr_iconst (pc := 23) (hI := d_Store_mergeEverything_23) (hr := by decide) ?_
        refine xr_ireturn (S := []) (pc := 24) (hI := d_Store_mergeEverything_24) (hr := rfl) ?_
        exact hyp
theorem d_Store_mergeEverything_34 : decode prog_8_method_15_code 34 = .ok (.ireturn, 1) := by decide +kernel
theorem v_Store_mergeEverything_34 {G : XG} {d : Nat} {h : XH} {Q : XV → XH → Prop} {X : Nat → XH → Prop} {s0 : Int} (F : xFix h) (hyp : (Q (xI s0) h)) : xwp G m_Store_mergeEverything (d + 6) 34 [xZ] [xI s0] h Q X := by
  have hnx9 : (93 : Int) ≤ xnx h := F.2.2
  refine xr_okS (fun hs9 => ?_)
  have r_s0 : -2147483648 ≤ s0 ∧ s0 ≤ 2147483647 := hs9 (xI s0) (.head _)
  refine xr_ireturn (S := []) (pc := 34) (hI := d_Store_mergeEverything_34) (hr := rfl) ?_
  exact hyp

end
