/-! ===== rows with the value said ===== -/
section XG2
def b2i (b : Bool) : Int := if b then 1 else 0
theorem b2i_rng (b : Bool) : 0 ≤ b2i b ∧ b2i b ≤ 1 := by cases b <;> decide
theorem b2i_0 {b : Bool} : b2i b = 0 ↔ ¬ b = true := by cases b <;> decide
theorem b2i_1 {b : Bool} : ¬ b2i b = 0 ↔ b = true := by cases b <;> decide
theorem b2i_t : b2i true = 1 := rfl
theorem b2i_f : b2i false = 0 := rfl
theorem xtdiv_rng {a b : Int} (h : 0 ≤ a) (hb : 0 < b) : 0 ≤ a.tdiv b ∧ b * a.tdiv b ≤ a ∧ a < b * a.tdiv b + b := by
  rw [Int.tdiv_eq_ediv_of_nonneg h]
  have h1 := Int.mul_ediv_add_emod a b
  have h2 := Int.emod_nonneg a (show b ≠ 0 by omega)
  have h3 := Int.emod_lt_of_pos a hb
  exact ⟨Int.ediv_nonneg h (by omega), by omega, by omega⟩
theorem xtdiv_le {a b : Int} (h : 0 ≤ a) (hb : 0 < b) : 0 ≤ a.tdiv b ∧ a.tdiv b ≤ a := by
  rw [Int.tdiv_eq_ediv_of_nonneg h]
  exact ⟨Int.ediv_nonneg h (by omega), Int.ediv_le_self b h⟩
theorem xand_nat (a : Int) {m : Nat} (k : Nat) (hm : (Int32.ofInt m).toBitVec.toNat = 2 ^ k - 1) (hk : k ≤ 30) : xand a m = ((Int32.ofInt a).toBitVec.toNat % 2 ^ k : Nat) := by
  unfold xand
  rw [Int32.toInt, Int32.toBitVec_and, BitVec.toInt_eq_toNat_of_lt]
  · rw [BitVec.toNat_and, hm, Nat.and_two_pow_sub_one_eq_mod]
  · rw [BitVec.toNat_and, hm, Nat.and_two_pow_sub_one_eq_mod]
    have h1 : 2 ^ k ≤ 2 ^ 30 := Nat.pow_le_pow_right (by decide) hk
    have h2 := Nat.mod_lt (Int32.ofInt a).toBitVec.toNat (Nat.two_pow_pos k)
    omega
theorem xand_rng255 (a : Int) : 0 ≤ xand a 255 ∧ xand a 255 ≤ 255 := by
  rw [show (255 : Int) = ((255 : Nat) : Int) from rfl, xand_nat a 8 (by decide) (by decide)]
  omega
theorem xand_rng63 (a : Int) : 0 ≤ xand a 63 ∧ xand a 63 ≤ 63 := by
  rw [show (63 : Int) = ((63 : Nat) : Int) from rfl, xand_nat a 6 (by decide) (by decide)]
  omega
theorem xand_rng31 (a : Int) : 0 ≤ xand a 31 ∧ xand a 31 ≤ 31 := by
  rw [show (31 : Int) = ((31 : Nat) : Int) from rfl, xand_nat a 5 (by decide) (by decide)]
  omega
theorem xle_of {a b i : Int} (e : a = b) (h : i ≤ b) : i ≤ a := by omega
theorem xok_z {t : Nat} (h : xaok t = true) : xok (xaty t, 0) := by
  have : t = 100 ∨ t = 101 ∨ t = 102 ∨ t = 103 ∨ t = 105 ∨ t = 110 ∨ t = 111 ∨ t = 112 := by simpa [xaok] using h
  rcases this with rfl | rfl | rfl | rfl | rfl | rfl | rfl | rfl <;> first | exact trivial | (show (_ : Int) ≤ _ ∧ _ ; decide) | (exact (by decide : (-2147483648 : Int) ≤ 0 ∧ (0 : Int) ≤ 2147483647)) | (exact (by decide : (-9223372036854775808 : Int) ≤ 0 ∧ (0 : Int) ≤ 9223372036854775807)) | (exact (by decide : (0 : Int) ≤ 0 ∧ (0 : Int) ≤ 1)) | (exact (by decide : (-128 : Int) ≤ 0 ∧ (0 : Int) ≤ 127)) | (exact (by decide : (0 : Int) ≤ 0 ∧ (0 : Int) < 18446744073709551616))
theorem xne_tag {h : XH} {a b : Int} {t u : Nat} (ha : xtg h a = t) (hb : xtg h b = u) (e : t ≠ u) : a ≠ b := fun z => e (by rw [← ha, ← hb, z])
theorem xlt_of {a b i : Int} (e : a = b) (h : i < b) : i < a := by omega
theorem xcmp_lt {a b : Int} : xcmp a b < 0 ↔ a < b := by unfold xcmp; split <;> (try split) <;> omega
theorem xcmp_eq {a b : Int} : xcmp a b = 0 ↔ a = b := by unfold xcmp; split <;> (try split) <;> omega
theorem xcmp_ge {a b : Int} : 0 ≤ xcmp a b ↔ b ≤ a := by unfold xcmp; split <;> (try split) <;> omega
theorem xcmp_gt {a b : Int} : 0 < xcmp a b ↔ b < a := by unfold xcmp; split <;> (try split) <;> omega
theorem xcmp_le {a b : Int} : xcmp a b ≤ 0 ↔ a ≤ b := by unfold xcmp; split <;> (try split) <;> omega
theorem xg_lif_eq {G : XG} {M : XM} {d pc : Nat} {L S : List XV} {h : XH} {Q : XV → XH → Prop} {X : Nat → XH → Prop} {a b : Int} {off : Int} {tgt : Nat} (hI : decode M.2.1 pc = .ok (.ifCond .eq off, 3)) (ht : (pc : Int) + off = (tgt : Int)) (kt : a = b → xwp G M d tgt L (S) h Q X) (kf : ¬ a = b → xwp G M d (pc + 3) L (S) h Q X) : xwp G M d pc L (xI (xcmp a b) :: S) h Q X := xr_if_eq hI ht (fun q => kt (xcmp_eq.mp q)) (fun q => kf (fun z => q (xcmp_eq.mpr z)))
theorem xg_lif_ne {G : XG} {M : XM} {d pc : Nat} {L S : List XV} {h : XH} {Q : XV → XH → Prop} {X : Nat → XH → Prop} {a b : Int} {off : Int} {tgt : Nat} (hI : decode M.2.1 pc = .ok (.ifCond .ne off, 3)) (ht : (pc : Int) + off = (tgt : Int)) (kt : ¬ a = b → xwp G M d tgt L (S) h Q X) (kf : a = b → xwp G M d (pc + 3) L (S) h Q X) : xwp G M d pc L (xI (xcmp a b) :: S) h Q X := xr_if_ne hI ht (fun q => kt (fun z => q (xcmp_eq.mpr z))) (fun q => kf (xcmp_eq.mp q))
theorem xg_lif_lt {G : XG} {M : XM} {d pc : Nat} {L S : List XV} {h : XH} {Q : XV → XH → Prop} {X : Nat → XH → Prop} {a b : Int} {off : Int} {tgt : Nat} (hI : decode M.2.1 pc = .ok (.ifCond .lt off, 3)) (ht : (pc : Int) + off = (tgt : Int)) (kt : a < b → xwp G M d tgt L (S) h Q X) (kf : ¬ a < b → xwp G M d (pc + 3) L (S) h Q X) : xwp G M d pc L (xI (xcmp a b) :: S) h Q X := xr_if_lt hI ht (fun q => kt (xcmp_lt.mp q)) (fun q => kf (fun z => q (xcmp_lt.mpr z)))
theorem xg_lif_ge {G : XG} {M : XM} {d pc : Nat} {L S : List XV} {h : XH} {Q : XV → XH → Prop} {X : Nat → XH → Prop} {a b : Int} {off : Int} {tgt : Nat} (hI : decode M.2.1 pc = .ok (.ifCond .ge off, 3)) (ht : (pc : Int) + off = (tgt : Int)) (kt : b ≤ a → xwp G M d tgt L (S) h Q X) (kf : ¬ b ≤ a → xwp G M d (pc + 3) L (S) h Q X) : xwp G M d pc L (xI (xcmp a b) :: S) h Q X := xr_if_ge hI ht (fun q => kt (xcmp_ge.mp q)) (fun q => kf (fun z => q (xcmp_ge.mpr z)))
theorem xg_lif_gt {G : XG} {M : XM} {d pc : Nat} {L S : List XV} {h : XH} {Q : XV → XH → Prop} {X : Nat → XH → Prop} {a b : Int} {off : Int} {tgt : Nat} (hI : decode M.2.1 pc = .ok (.ifCond .gt off, 3)) (ht : (pc : Int) + off = (tgt : Int)) (kt : b < a → xwp G M d tgt L (S) h Q X) (kf : ¬ b < a → xwp G M d (pc + 3) L (S) h Q X) : xwp G M d pc L (xI (xcmp a b) :: S) h Q X := xr_if_gt hI ht (fun q => kt (xcmp_gt.mp q)) (fun q => kf (fun z => q (xcmp_gt.mpr z)))
theorem xg_lif_le {G : XG} {M : XM} {d pc : Nat} {L S : List XV} {h : XH} {Q : XV → XH → Prop} {X : Nat → XH → Prop} {a b : Int} {off : Int} {tgt : Nat} (hI : decode M.2.1 pc = .ok (.ifCond .le off, 3)) (ht : (pc : Int) + off = (tgt : Int)) (kt : a ≤ b → xwp G M d tgt L (S) h Q X) (kf : ¬ a ≤ b → xwp G M d (pc + 3) L (S) h Q X) : xwp G M d pc L (xI (xcmp a b) :: S) h Q X := xr_if_le hI ht (fun q => kt (xcmp_le.mp q)) (fun q => kf (fun z => q (xcmp_le.mpr z)))
theorem xg_iaload {G : XG} {M : XM} {d pc : Nat} {L S : List XV} {h : XH} {Q : XV → XH → Prop} {X : Nat → XH → Prop} {a i v : Int} (hI : decode M.2.1 pc = .ok (.iaload, 1)) (ht : xtg h a = 100) (h0 : 0 ≤ i) (hi : i < xln h a) (e : xpl h a i = v) (k9 : xok (0, v) → xwp G M d (pc + 1) L ((0, v) :: S) h Q X) : xwp G M d pc L (xI i :: xR a :: S) h Q X := by
  subst e
  exact xr_iaload hI ht h0 hi k9
theorem xg_laload {G : XG} {M : XM} {d pc : Nat} {L S : List XV} {h : XH} {Q : XV → XH → Prop} {X : Nat → XH → Prop} {a i v : Int} (hI : decode M.2.1 pc = .ok (.laload, 1)) (ht : xtg h a = 101) (h0 : 0 ≤ i) (hi : i < xln h a) (e : xpl h a i = v) (k9 : xok (1, v) → xwp G M d (pc + 1) L ((1, v) :: S) h Q X) : xwp G M d pc L (xI i :: xR a :: S) h Q X := by
  subst e
  exact xr_laload hI ht h0 hi k9
theorem xg_daload {G : XG} {M : XM} {d pc : Nat} {L S : List XV} {h : XH} {Q : XV → XH → Prop} {X : Nat → XH → Prop} {a i v : Int} (hI : decode M.2.1 pc = .ok (.daload, 1)) (ht : xtg h a = 105) (h0 : 0 ≤ i) (hi : i < xln h a) (e : xpl h a i = v) (k9 : xok (3, v) → xwp G M d (pc + 1) L ((3, v) :: S) h Q X) : xwp G M d pc L (xI i :: xR a :: S) h Q X := by
  subst e
  exact xr_daload hI ht h0 hi k9
theorem xg_aaload {G : XG} {M : XM} {d pc : Nat} {L S : List XV} {h : XH} {Q : XV → XH → Prop} {X : Nat → XH → Prop} {a i v : Int} {t : Nat} (hI : decode M.2.1 pc = .ok (.aaload, 1)) (ht : xtg h a = t) (h1 : 110 ≤ t) (h2 : xaok t = true) (h3 : t < 200) (h0 : 0 ≤ i) (hi : i < xln h a) (e : xpl h a i = v) (k9 : xwp G M d (pc + 1) L (xR v :: S) h Q X) : xwp G M d pc L (xI i :: xR a :: S) h Q X := by
  subst e
  exact xr_aaload hI ht h1 h2 h3 h0 hi k9
theorem xg_alen {G : XG} {M : XM} {d pc : Nat} {L S : List XV} {h : XH} {Q : XV → XH → Prop} {X : Nat → XH → Prop} {a v : Int} {t : Nat} (hI : decode M.2.1 pc = .ok (.arraylength, 1)) (ht : xtg h a = t) (h1 : 100 ≤ t) (h2 : t < 200) (h3 : xaok t = true) (e : xln h a = v) (k9 : 0 ≤ v → v ≤ 2147483647 → xwp G M d (pc + 1) L (xI v :: S) h Q X) : xwp G M d pc L (xR a :: S) h Q X := by
  subst e
  exact xr_alen hI ht h1 h2 h3 k9
theorem xg_baloadZ {G : XG} {M : XM} {d pc : Nat} {L S : List XV} {h : XH} {Q : XV → XH → Prop} {X : Nat → XH → Prop} {a i v : Int} (hI : decode M.2.1 pc = .ok (.baload, 1)) (ht : xtg h a = 102) (h0 : 0 ≤ i) (hi : i < xln h a) (e9 : xpl h a i = v) (k9 : xok (4, v) → xwp G M d (pc + 1) L ((0, v) :: S) h Q X) : xwp G M d pc L (xI i :: xR a :: S) h Q X := by
  subst e9
  intro p e R s m args below meth c H locs ls F hH hL hS hz hy hlo
  obtain ⟨q, cell, e1, e2, e3, e4, k1, k2, k3, ks, e5⟩ := xarrw hH (F.2.2.2.2.2.2.2.2.2.2.2.2.2.2.2) ht (by decide) (by decide)
  have hir : xiR i := ⟨by omega, by omega⟩
  have hin := xi_in h0 hi e3
  have hok4 : xok (4, xpl h a i) := by
    have := e5 i.toNat (by omega)
    rw [show ((i.toNat : Nat) : Int) = i by omega] at this
    exact this
  have hok : xok (0, xpl h a i) := xok_sty (t := 4) hok4
  show W p (gl G) e R s m args below meth c H locs _ _ _ (F0 m pc ls (.int (Int32.ofInt i) :: xadr G a :: S.map (xcv G)))
  rw [e1]
  refine W.zald (v := xcv G (0, xpl h a i)) F.1 F.2.1 e4 (State.isArrayOf_alike F.2.2.2.2.2.2.1.alike (k1 rfl)) k3.1 (fun z => hin (z.imp id (fun w => Nat.le_trans ks.1 w))) ?_ rfl rfl hI (k9 hok4 p e R s m args below meth c H locs ls F hH hL (xac hok (xal1 (xal1 hS).2).2) hz hy hlo)
  rw [xi_clamp hir, ks.2.2 _ (by omega)]
  congr 1
  rw [show ((i.toNat : Nat) : Int) = i by omega]
  exact (xcv_sty G (xaty 102) _).symm
theorem xg_baloadB {G : XG} {M : XM} {d pc : Nat} {L S : List XV} {h : XH} {Q : XV → XH → Prop} {X : Nat → XH → Prop} {a i v : Int} (hI : decode M.2.1 pc = .ok (.baload, 1)) (ht : xtg h a = 103) (h0 : 0 ≤ i) (hi : i < xln h a) (e9 : xpl h a i = v) (k9 : xok (5, v) → xwp G M d (pc + 1) L ((0, v) :: S) h Q X) : xwp G M d pc L (xI i :: xR a :: S) h Q X := by
  subst e9
  intro p e R s m args below meth c H locs ls F hH hL hS hz hy hlo
  obtain ⟨q, cell, e1, e2, e3, e4, k1, k2, k3, ks, e5⟩ := xarrw hH (F.2.2.2.2.2.2.2.2.2.2.2.2.2.2.2) ht (by decide) (by decide)
  have hir : xiR i := ⟨by omega, by omega⟩
  have hin := xi_in h0 hi e3
  have hok5 : xok (5, xpl h a i) := by
    have := e5 i.toNat (by omega)
    rw [show ((i.toNat : Nat) : Int) = i by omega] at this
    exact this
  have hok : xok (0, xpl h a i) := xok_sty (t := 5) hok5
  show W p (gl G) e R s m args below meth c H locs _ _ _ (F0 m pc ls (.int (Int32.ofInt i) :: xadr G a :: S.map (xcv G)))
  rw [e1]
  refine W.bald (v := xcv G (0, xpl h a i)) F.1 F.2.1 e4 (State.isArrayOf_alike F.2.2.2.2.2.2.1.alike (k1 rfl)) k3.1 (fun z => hin (z.imp id (fun w => Nat.le_trans ks.1 w))) ?_ rfl rfl hI (k9 hok5 p e R s m args below meth c H locs ls F hH hL (xac hok (xal1 (xal1 hS).2).2) hz hy hlo)
  rw [xi_clamp hir, ks.2.2 _ (by omega)]
  congr 1
  rw [show ((i.toNat : Nat) : Int) = i by omega]
  exact (xcv_sty G (xaty 103) _).symm
theorem xg_getf {G : XG} {M : XM} {d pc : Nat} {L S : List XV} {h : XH} {Q : XV → XH → Prop} {X : Nat → XH → Prop} {a v : Int} {ci k index N v9 : Nat} {ref C : String} {T : u_T} (hI : decode M.2.1 pc = .ok (.getfield index, 3)) (hw : Cond.fieldLink M.1.cls index ref (T k).2.1 (T k).2.2.1 ∈ lw_tbl) (hc : xCL[ci]? = some (C, T, N)) (hin : ∀ w ∈ u_ws C T N, w ∈ lw_tbl) (hs : ref = (T k).1 ∨ Cond.sameField ref (T k).1 (T k).2.1 (T k).2.2.1 ∈ lw_tbl) (hk : k < N) (hci : ci < 100) (hv : xsty (xfty ci k) = v9)
    (ht : xtg h a = ci) (e : xpl h a (k : Int) = v) (k9 : xok (v9, v) → xwp G M d (pc + 3) L ((v9, v) :: S) h Q X) : xwp G M d pc L (xR a :: S) h Q X := by
  subst e
  exact xr_getf hI hw hc hin hs hk hci hv ht k9
theorem xg_getfZ {G : XG} {M : XM} {d pc : Nat} {L S : List XV} {h : XH} {Q : XV → XH → Prop} {X : Nat → XH → Prop} {a v : Int} {ci k index N : Nat} {ref C : String} {T : u_T} (hI : decode M.2.1 pc = .ok (.getfield index, 3)) (hw : Cond.fieldLink M.1.cls index ref (T k).2.1 (T k).2.2.1 ∈ lw_tbl) (hc : xCL[ci]? = some (C, T, N)) (hin : ∀ w ∈ u_ws C T N, w ∈ lw_tbl) (hs : ref = (T k).1 ∨ Cond.sameField ref (T k).1 (T k).2.1 (T k).2.2.1 ∈ lw_tbl) (hk : k < N) (hci : ci < 100) (hv : xfty ci k = 4)
    (ht : xtg h a = ci) (e9 : xpl h a (k : Int) = v) (k9 : xok (4, v) → xwp G M d (pc + 3) L ((0, v) :: S) h Q X) : xwp G M d pc L (xR a :: S) h Q X := by
  subst e9
  intro p e R s m args below meth c H locs ls F hH hL hS hz hy hlo
  obtain ⟨q, e1, ⟨cell, g1, g2, g3, g4⟩, e3⟩ := xcellw hH (F.2.2.2.2.2.2.2.2.2.2.2.2.2.2.2) ht hc hci
  obtain ⟨hS2, hfc, kC, hkC, hkind⟩ := F.known hc
  obtain ⟨cf, kf, fi, f, hi, hsl⟩ := hS2 k hk
  have hlay := u_lays (ws := u_ws C T N) (args := args) (s := s) (fun w hw2 => F.word (hin w hw2) (by obtain ⟨j, -, rfl⟩ := List.mem_map.mp hw2; unfold u_lay; split <;> rfl)) (fun w hw2 => hw2) hk
  have hv2 : cell.slots[f.slot]? = some (xcv G (0, xpl h a (k : Int))) := by
    rw [hsl, g4 k hk]; show some (xcv G (xfty ci k, xpl h a ↑k)) = _; rw [← xcv_sty G (xfty ci k), hv]; rfl
  have hsame : s.fieldFound? ref (T k).2.1 (T k).2.2.1 = some (cf, kf, fi, f) := by
    rcases hs with hs | hs
    · rw [hs]; exact hi
    · exact u_same (F.word hs rfl) _ hi
  show W p (gl G) e R s m args below meth c H locs _ _ _ (F0 m pc ls (xadr G a :: S.map (xcv G)))
  rw [e1]
  have hok4 : xok (4, xpl h a (k : Int)) := by rw [← hv]; exact e3 k hk
  have hok : xok (0, xpl h a (k : Int)) := xok_sty (t := 4) hok4
  exact W.getf F.1 F.2.1 F.2.2.2.2.2.1 (F.word hw rfl) hsame (u_facts hfc hkC hlay hi).1 g1 g3.1 hv2 rfl rfl hI (k9 hok4 p e R s m args below meth c H locs ls F hH hL (xac hok (xal1 hS).2) hz hy hlo)
theorem xg_getfN {G : XG} {M : XM} {d pc : Nat} {L S : List XV} {h : XH} {Q : XV → XH → Prop} {X : Nat → XH → Prop} {a v : Int} {ci k index N v9 : Nat} {ref C : String} {T : u_T} {host : String} (hI : decode M.2.1 pc = .ok (.getfield index, 3)) (hw : Cond.fieldLinkNest M.1.cls index ref (T k).2.1 (T k).2.2.1 host ∈ lw_tbl) (hc : xCL[ci]? = some (C, T, N)) (hin : ∀ w ∈ u_ws C T N, w ∈ lw_tbl) (hs : ref = (T k).1 ∨ Cond.sameField ref (T k).1 (T k).2.1 (T k).2.2.1 ∈ lw_tbl) (hk : k < N) (hci : ci < 100) (hv : xsty (xfty ci k) = v9)
    (ht : xtg h a = ci) (e : xpl h a (k : Int) = v) (k9 : xok (v9, v) → xwp G M d (pc + 3) L ((v9, v) :: S) h Q X) : xwp G M d pc L (xR a :: S) h Q X := by
  subst e
  exact xr_getfN hI hw hc hin hs hk hci hv ht k9
theorem xg_getfNZ {G : XG} {M : XM} {d pc : Nat} {L S : List XV} {h : XH} {Q : XV → XH → Prop} {X : Nat → XH → Prop} {a v : Int} {ci k index N : Nat} {ref C : String} {T : u_T} {host : String} (hI : decode M.2.1 pc = .ok (.getfield index, 3)) (hw : Cond.fieldLinkNest M.1.cls index ref (T k).2.1 (T k).2.2.1 host ∈ lw_tbl) (hc : xCL[ci]? = some (C, T, N)) (hin : ∀ w ∈ u_ws C T N, w ∈ lw_tbl) (hs : ref = (T k).1 ∨ Cond.sameField ref (T k).1 (T k).2.1 (T k).2.2.1 ∈ lw_tbl) (hk : k < N) (hci : ci < 100) (hv : xfty ci k = 4)
    (ht : xtg h a = ci) (e9 : xpl h a (k : Int) = v) (k9 : xok (4, v) → xwp G M d (pc + 3) L ((0, v) :: S) h Q X) : xwp G M d pc L (xR a :: S) h Q X := by
  subst e9
  intro p e R s m args below meth c H locs ls F hH hL hS hz hy hlo
  obtain ⟨A0, hbw⟩ := F.2.2.2.2.2.2.2.2.2.2.2.2.2.2.2.2.1
  obtain ⟨q, e1, ⟨cell, g1, g2, g3, g4⟩, e3⟩ := xcellw hH (F.2.2.2.2.2.2.2.2.2.2.2.2.2.2.2) ht hc hci
  obtain ⟨hS2, hfc, kC, hkC, hkind⟩ := F.known hc
  obtain ⟨cf, kf, fi, f, hi, hsl⟩ := hS2 k hk
  have hlay := u_lays (ws := u_ws C T N) (args := args) (s := s) (fun w hw2 => F.word (hin w hw2) (by obtain ⟨j, -, rfl⟩ := List.mem_map.mp hw2; unfold u_lay; split <;> rfl)) (fun w hw2 => hw2) hk
  have hv2 : cell.slots[f.slot]? = some (xcv G (0, xpl h a (k : Int))) := by
    rw [hsl, g4 k hk]; show some (xcv G (xfty ci k, xpl h a ↑k)) = _; rw [← xcv_sty G (xfty ci k), hv]; rfl
  have hsame : s.fieldFound? ref (T k).2.1 (T k).2.2.1 = some (cf, kf, fi, f) := by
    rcases hs with hs | hs
    · rw [hs]; exact hi
    · exact u_same (F.word hs rfl) _ hi
  show W p (gl G) e R s m args below meth c H locs _ _ _ (F0 m pc ls (xadr G a :: S.map (xcv G)))
  rw [e1]
  have hok4 : xok (4, xpl h a (k : Int)) := by rw [← hv]; exact e3 k hk
  have hok : xok (0, xpl h a (k : Int)) := xok_sty (t := 4) hok4
  exact va_Wgetf F.1 F.2.1 F.2.2.2.2.2.1 (va_Nw.use rfl (va_Nw.warmF F.2.2.2.2.2.2.1 (va_Nw.of rfl (hbw _ hw)))) hsame (u_facts hfc hkC hlay hi).1 g1 g3.1 hv2 rfl rfl hI (k9 hok4 p e R s m args below meth c H locs ls F hH hL (xac hok (xal1 hS).2) hz hy hlo)
theorem xr_iaddw {G : XG} {M : XM} {d pc : Nat} {L S : List XV} {h : XH} {Q : XV → XH → Prop} {X : Nat → XH → Prop} {a b : Int} (hI : decode M.2.1 pc = .ok (.iadd, 1)) (k : xwp G M d (pc + 1) L (xI (xw32 (a + b)) :: S) h Q X) : xwp G M d pc L (xI b :: xI a :: S) h Q X := x_pure k (fun hS _ => xac (xi_toR _) (xal1 (xal1 hS).2).2) (fun p e R s m args below meth c H locs cells slots Z ls F hL hS kk => by
  refine lv_iadd F.1 F.2.1 hI ?_
  rw [← Int32.ofInt_add, show Int32.ofInt (a + b) = Int32.ofInt (xw32 (a + b)) from (by unfold xw32; rw [Int32.ofInt_toInt])]
  exact kk ls hL)
theorem xi2c_id {v : Int} (h0 : 0 ≤ v) (h1 : v ≤ 65535) : xi2c v = v := by
  unfold xi2c
  obtain ⟨n, rfl⟩ : ∃ n : Nat, v = n := ⟨v.toNat, by omega⟩
  have e : ((Int32.ofInt (n : Int)).toUInt32 % 65536).toInt32 = Int32.ofInt (n : Int) := by
    rw [← Int32.toBitVec_inj]
    apply BitVec.eq_of_toNat_eq
    have : (Int32.ofInt (n : Int)).toBitVec.toNat = n := by have h9 := pk_tn (n := n) (by omega); rwa [nI, ← Int32.ofInt_eq_ofNat] at h9
    show (Int32.ofInt (n : Int)).toBitVec.toNat % 65536 = _
    rw [this]
    omega
  rw [e]
  exact xi_to ⟨by omega, by omega⟩
theorem xand_id255 {v : Int} (h0 : 0 ≤ v) (h1 : v ≤ 255) : xand v 255 = v := by
  obtain ⟨n, rfl⟩ : ∃ n : Nat, v = n := ⟨v.toNat, by omega⟩
  rw [show (255 : Int) = ((255 : Nat) : Int) from rfl, xand_nat (n : Int) 8 (by decide) (by decide)]
  have : (Int32.ofInt (n : Int)).toBitVec.toNat = n := by have h9 := pk_tn (n := n) (by omega); rwa [nI, ← Int32.ofInt_eq_ofNat] at h9
  rw [this]
  omega
theorem xnar_c {v : Int} (h0 : 0 ≤ v) (h1 : v ≤ 65535) : narrow .char (.int (Int32.ofInt v)) = .int (Int32.ofInt v) := by
  have h := (pk_charN (q := v.toNat) (by omega)).1
  have e : nI v.toNat = Int32.ofInt v := by
    unfold nI
    conv => rhs; rw [show v = ((v.toNat : Nat) : Int) by omega]
    exact (Int32.ofInt_eq_ofNat (n := v.toNat)).symm
  rw [e] at h
  exact h
def xaos (t : Nat) : Bool := t == 4 || t == 5 || t == 9
theorem xr_aastoreA {G : XG} {M : XM} {d pc : Nat} {L S : List XV} {h : XH} {Q : XV → XH → Prop} {X : Nat → XH → Prop} {a i v : Int} (hI : decode M.2.1 pc = .ok (.aastore, 1)) (hv : xaos (xtg h v) = true) (ht : xtg h a = 110) (ha : 0 ≤ a) (h0 : 0 ≤ i) (hi : i < xln h a) (k9 : xwp G M d (pc + 1) L S (xst h a i v) Q X) : xwp G M d pc L (xR v :: xI i :: xR a :: S) h Q X := by
  simp only [xaos, Bool.or_eq_true, beq_iff_eq] at hv
  rcases hv with (hv | hv) | hv
  · exact xr_aastore (ci := 4) (N := 13) (C := "BeaconIndex$Part") (T := xF4) hI (by decide +kernel) rfl (by decide) hv ht ha h0 hi k9
  · exact xr_aastore (ci := 5) (N := 5) (C := "BeaconIndex$Question") (T := xF5) hI (by decide +kernel) rfl (by decide) hv ht ha h0 hi k9
  · exact xr_aastore (ci := 9) (N := 6) (C := "BeaconIndex$Text") (T := xF9) hI (by decide +kernel) rfl (by decide) hv ht ha h0 hi k9
theorem xwp_post {G : XG} {M : XM} {d pc : Nat} {L S : List XV} {h : XH} {Q Q' : XV → XH → Prop} {X X' : Nat → XH → Prop} (w : xwp G M d pc L S h Q X) (hQ : ∀ v h9 H, Q v h9 → xHR G h9 H → ∃ h', xHR G h' H ∧ Q' v h') (hX : ∀ k h9, X k h9 → X' k h9) : xwp G M d pc L S h Q' X' := by
  intro p e R s m args below meth c H locs ls F hH hL hS hz hy hlo T hT Y9
  obtain ⟨t, a, o, b1, b2, b3⟩ := w p e R s m args below meth c H locs ls F hH hL hS hz hy hlo T hT Y9
  refine ⟨t, a, o, b1, b2, ?_⟩
  rcases b3 with ⟨⟨v, h9, e1, e2, e3, e4⟩, c2⟩ | ⟨r, c1, E, ce, locs9, ⟨k, h9, x1, x2, x3, x4⟩, c3⟩
  · obtain ⟨h', f1, f2⟩ := hQ v h9 _ e4 e3
    exact Or.inl ⟨⟨v, h', e1, e2, f1, f2⟩, c2⟩
  · exact Or.inr ⟨r, c1, E, ce, locs9, ⟨k, h9, x1, x2, x3, hX k h9 x4⟩, c3⟩
theorem xwp_mono {G : XG} {M : XM} {d pc : Nat} {L S : List XV} {h : XH} {Q Q' : XV → XH → Prop} {X X' : Nat → XH → Prop} (w : xwp G M d pc L S h Q X) (hQ : ∀ v h9, Q v h9 → Q' v h9) (hX : ∀ k h9, X k h9 → X' k h9) : xwp G M d pc L S h Q' X' :=
  xwp_post w (fun v h9 H q hH => ⟨h9, hH, hQ v h9 q⟩) hX
end XG2
