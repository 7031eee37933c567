/-! ===== lrows ===== -/
section
/-! the law's own frame: its script, its calls -/
/-- the script, as it stood at the start -/
def SCR (G : XG) (n : Nat) (xs : Nat → Int32) : Prop := va_X (gd G 106) n xs (gs G) (gs G).heap ∧ gd G 106 < gB G ∧ n ≤ 3072
theorem xadr_scr (G : XG) : xadr G (-108) = .ref (gd G 106) := by
  unfold xadr
  rw [if_neg (by decide), if_neg (by decide)]
  rfl
/-- an int of the script -/
def scV (xs : Nat → Int32) (i : Int) : Int := (xs i.toNat).toInt
theorem xr_slen {G : XG} {M : XM} {d pc : Nat} {L S : List XV} {h : XH} {Q : XV → XH → Prop} {X : Nat → XH → Prop} {n9 : Nat} {xs : Nat → Int32} (SC : SCR G n9 xs) (hI : decode M.2.1 pc = .ok (.arraylength, 1)) (k9 : xwp G M d (pc + 1) L (xI n9 :: S) h Q X) : xwp G M d pc L (xR (-108) :: S) h Q X := by
  intro p e R s m args below meth c H locs ls F hH hL hS hz hy hlo
  obtain ⟨sx, sb, sl⟩ := SC
  have hX : va_X (gd G 106) n9 xs s H := (sx.moved F.2.2.2.2.2.2.1.alike).kept (hH.2.2.2.2.2.1 _ sb)
  show W p (gl G) e R s m args below meth c H locs _ _ _ (F0 m pc ls (xadr G (-108) :: S.map (xcv G)))
  rw [xadr_scr]
  obtain ⟨scr, h1, h2, h3, h4, h5⟩ := hX
  exact W.alen (n := Int32.ofNat n9) F.1 F.2.1 h1 h2 (by rw [h4] <;> rfl) rfl rfl hI (k9 p e R s m args below meth c H locs ls F hH hL (xac (show xiR (n9 : Int) from ⟨by omega, by omega⟩) (xal1 hS).2) hz hy hlo)
theorem xr_scd {G : XG} {M : XM} {d pc : Nat} {L S : List XV} {h : XH} {Q : XV → XH → Prop} {X : Nat → XH → Prop} {n9 : Nat} {xs : Nat → Int32} {i : Int} (SC : SCR G n9 xs) (hI : decode M.2.1 pc = .ok (.iaload, 1)) (h0 : 0 ≤ i) (hi : i < n9) (k9 : xwp G M d (pc + 1) L (xI (scV xs i) :: S) h Q X) : xwp G M d pc L (xI i :: xR (-108) :: S) h Q X := by
  intro p e R s m args below meth c H locs ls F hH hL hS hz hy hlo
  obtain ⟨sx, sb, sl⟩ := SC
  have hX : va_X (gd G 106) n9 xs s H := (sx.moved F.2.2.2.2.2.2.1.alike).kept (hH.2.2.2.2.2.1 _ sb)
  have hir : xiR i := ⟨by omega, by omega⟩
  have hin := xi_in h0 hi (by omega)
  rw [Int.toNat_natCast] at hin
  show W p (gl G) e R s m args below meth c H locs _ _ _ (F0 m pc ls (.int (Int32.ofInt i) :: xadr G (-108) :: S.map (xcv G)))
  rw [xadr_scr]
  obtain ⟨scr, h1, h2, h3, h4, h5⟩ := hX
  have e9 : Value.int (xs i.toNat) = xcv G (xI (scV xs i)) := by
    show Value.int (xs i.toNat) = Value.int (Int32.ofInt (xs i.toNat).toInt)
    rw [Int32.ofInt_toInt]
  have k := k9 p e R s m args below meth c H locs ls F hH hL (xac (show xiR (scV xs i) from xi_toR _) (xal1 (xal1 hS).2).2) hz hy hlo
  have k : W p (gl G) e R s m args below meth c H locs (H.size - s.heap.size) (xtsl H - xtsl s.heap) (xEnd G Q X below args s R) (F0 m (pc + 1) ls (xcv G (xI (scV xs i)) :: S.map (xcv G))) := k
  rw [← e9] at k
  exact W.iald (v := .int (xs i.toNat)) F.1 F.2.1 h1 h2 h3 (by rw [h4]; exact hin) (by rw [xi_clamp hir]; exact h5 _ (by omega)) rfl rfl hI k
section
variable {G : XG} {M : XM} {d : Nat} {p : Program} {e : Env} {R : _root_.Jvm.Room} {s : State} {m : MethodId} {args : Array Value} {below : List Frame} {meth : Method} {c : Code} {H : Heap} {locs : List Loc} {pc : Nat} {ls : Array Slot} {st0 rest : List Value} {Q Q1 : XV → XH → Prop} {X : Nat → XH → Prop} {mc ms : Nat} {a : Array Value}
/-- a call that throws nothing -/
theorem x_runR (hlo : ∀ q ∈ locs, gB G ≤ q.base)
    (hr : vx_Run p (gl G) e R s m args below meth c H locs (H.size - s.heap.size) (xtsl H - xtsl s.heap) mc ms (F0 m pc ls st0) rest (xQc G Q1 a) (xXc G (fun _ _ => False)) (fun q => gB G ≤ q))
    (kk : ∀ (v : XV) (h1 : XH) (H1 : Heap) (locs1 : List Loc), (v.1 = 8 ∨ (v.1 < 4 ∧ xok v)) → xHR G h1 H1 → Q1 v h1 → s.heap.size ≤ H1.size → xtsl s.heap ≤ xtsl H1 → (∀ q ∈ locs1, gB G ≤ q.base) →
      W p (gl G) e R s m args below meth c H1 locs1 (H1.size - s.heap.size) (xtsl H1 - xtsl s.heap) (xEnd G Q X below args s R) (F0 m (pc + 3) ls ((xrv G v).toList ++ rest))) : W p (gl G) e R s m args below meth c H locs (H.size - s.heap.size) (xtsl H - xtsl s.heap) (xEnd G Q X below args s R) (F0 m pc ls st0) := by
  intro T hT X9
  rcases hr T hT X9 with ⟨v, st₀, t, T', L9, h0, X', hL, e1, e2, hq, st⟩ | ⟨q, st₀, t, T', L9, E, ce, h0, X', hL, e1, e2, hx, hce, hcv, hcl, st⟩
  · obtain ⟨v1, h1, hv, hok, hH1, hQ⟩ := hq
    cases hv
    obtain ⟨y1, y2, y3, y4⟩ := x_same X'
    have hlo1 : ∀ q ∈ locs ++ L9, gB G ≤ q.base := fun q hq => by
      rcases List.mem_append.mp hq with z | z
      · exact hlo q z
      · exact hL q z
    have k2 := x_tight (cells := (H.size - s.heap.size) + mc) (slots := (xtsl H - xtsl s.heap) + ms) (kk v1 h1 T'.heap (locs ++ L9) hok (by rw [e1]; exact hH1) hQ y1 (by omega) hlo1)
    obtain ⟨t2, a1, b1⟩ := k2 T' rfl X'
    exact ⟨t2, st t2 a1, b1⟩
  · obtain ⟨k, h1, -, -, -, hf⟩ := hx
    exact hf.elim
end
theorem xl_callV {G : XG} {M K : XM} {d pc : Nat} {L S : List XV} {h : XH} {Q : XV → XH → Prop} {X : Nat → XH → Prop} {b : Int} {index ci N : Nat} {As S9 L0 : List XV} {C : String} {T : u_T} (hI : decode M.2.1 pc = .ok (.invokevirtual index, 3)) (hK : xCal K As.length) (hlk : Cond.methodLink M.1.cls index K.1 ∈ lw_tbl) (hS8 : xcsum S ≤ 8) (hc : xCL[ci]? = some (C, T, N)) (hci : ci < 100) (htb : xtg h b = ci) (hinst : Cond.instanceMethod K.1 ∈ lw_tbl) (hsel : Cond.selects C K.1 K.1 ∈ lw_tbl) (hlen : (xent (xR b :: As)).length ≤ K.2.2.1) (hst : As.reverse ++ xR b :: S = S9) (hL0 : xpad K.2.2.1 (xR b :: As) = L0)
    (w : xwp G K d 0 L0 [] h (fun v h1 => xwp G M (d + 1) (pc + 3) L (xpush v S) h1 Q X) (fun _ _ => False)) : xwp G M (d + 1) pc L S9 h Q X := by
  obtain ⟨hcd, hini, hmax, hnm, hsig, hpl, hnoK⟩ := hK
  subst hst
  intro p e R s m args below meth c H locs ls F hH hL hS hz hy hlo
  have hS1 := (xall_app hS).1
  have hS2 : ∀ v ∈ S, xok v := (xal1 (xall_app hS).2).2
  have hAs : ∀ v ∈ As, xok v := fun v hv => hS1 v (List.mem_reverse.mpr hv)
  have hok : ∀ v ∈ (xR b :: As), xok v := xac (show True from trivial) hAs
  have hM := x_met (K := K) F.base hH hok hlen hpl hnoK hL0 w
  have hfit := F.fits hH hz hy
  have hB := F.callB (K := K) (H := H) hcd hini hlk hmax hnm hsig
  obtain ⟨q, e1, ⟨cell, g1, g2, g3, g4⟩, e3⟩ := xcellw hH (F.2.2.2.2.2.2.2.2.2.2.2.2.2.2.2) htb hc hci
  have est : (As.reverse ++ xR b :: S).map (xcv G) = (As.map (xcv G)).reverse ++ .ref q :: S.map (xcv G) := by
    rw [List.map_append, List.map_reverse, List.map_cons, show xcv G (xR b) = .ref q from e1]
  rw [est]
  have hr := vx_runV (As := As.map (xcv G)) (rest := S.map (xcv G)) (Ts := []) (g := F0 m pc ls ((As.map (xcv G)).reverse ++ .ref q :: S.map (xcv G))) (locs := locs) (cells := H.size - s.heap.size) (slots := xtsl H - xtsl s.heap) (below := below) (e := e) (meth := meth) ⟨F.1, F.2.1, F.2.2.1, F.2.2.2.2.2.1, fun w hw => absurd hw List.not_mem_nil⟩ hM ⟨hB, F.word hinst rfl, F.word hsel rfl⟩ ⟨xPc_blind G _ H, ⟨cell, g1, g3.2, by rw [g2]; exact (F.known hc).2.1⟩, fun U hU hW => ⟨by rw [List.map_cons, show xcv G (xR b) = .ref q from e1], hU, State.WarmedH.trans F.2.2.2.2.2.2.1 hW⟩⟩ rfl (by rw [List.length_map]) (hL.1.1) rfl (by show 2 * 0 + ((S.map (xcv G)).map fun v => v.category).sum ≤ 8; rw [xcsum_eq]; omega) hI hfit
  exact x_runR hlo hr (fun v h1 H1 locs1 hv hH1 hQ1 y1 y3 hlo1 => by
    obtain ⟨q1, q2⟩ := xrv_push G hv S
    rw [q1]
    exact hQ1 p e R s m args below meth c H1 locs1 ls F hH1 hL (q2 hS2) y1 y3 hlo1)
theorem xl_callI {G : XG} {M K : XM} {d pc : Nat} {L S : List XV} {h : XH} {Q : XV → XH → Prop} {X : Nat → XH → Prop} {index : Nat} {As S9 L0 : List XV} {b : Int} (hI : decode M.2.1 pc = .ok (.invokespecial index, 3)) (hK : xCal K As.length) (hlk : Cond.methodLink M.1.cls index K.1 ∈ lw_tbl) (hS8 : xcsum S ≤ 8) (hb0 : -1 < b) (hinst : Cond.instanceMethod K.1 ∈ lw_tbl) (hname : K.1.name = "<init>") (hret : K.2.2.2.1 = none) (hlen : (xent (xR b :: As)).length ≤ K.2.2.1) (hst : As.reverse ++ xR b :: S = S9) (hL0 : xpad K.2.2.1 (xR b :: As) = L0)
    (w : xwp G K d 0 L0 [] h (fun v h1 => xwp G M (d + 1) (pc + 3) L (xpush v S) h1 Q X) (fun _ _ => False)) : xwp G M (d + 1) pc L S9 h Q X := by
  obtain ⟨hcd, hini, hmax, hnm, hsig, hpl, hnoK⟩ := hK
  subst hst
  intro p e R s m args below meth c H locs ls F hH hL hS hz hy hlo
  have hS1 := (xall_app hS).1
  have hS2 : ∀ v ∈ S, xok v := (xal1 (xall_app hS).2).2
  have hAs : ∀ v ∈ As, xok v := fun v hv => hS1 v (List.mem_reverse.mpr hv)
  have hok : ∀ v ∈ (xR b :: As), xok v := xac (show True from trivial) hAs
  have hM := x_met (K := K) F.base hH hok hlen hpl hnoK hL0 w
  have hfit := F.fits hH hz hy
  have hB := F.callB (K := K) (H := H) hcd hini hlk hmax hnm hsig
  have e1 : xadr G b = .ref (gB G + b.toNat) := hH.adr (by omega)
  have est : (As.reverse ++ xR b :: S).map (xcv G) = (As.map (xcv G)).reverse ++ .ref (gB G + b.toNat) :: S.map (xcv G) := by
    rw [List.map_append, List.map_reverse, List.map_cons, show xcv G (xR b) = .ref (gB G + b.toNat) from e1]
  rw [est]
  rw [hret] at hB hM
  have hr := vx_runI (As := As.map (xcv G)) (rest := S.map (xcv G)) (Ts := []) (g := F0 m pc ls ((As.map (xcv G)).reverse ++ .ref (gB G + b.toNat) :: S.map (xcv G))) (locs := locs) (cells := H.size - s.heap.size) (slots := xtsl H - xtsl s.heap) (below := below) (e := e) (meth := meth) ⟨F.1, F.2.1, F.2.2.1, F.2.2.2.2.2.1, fun w hw => absurd hw List.not_mem_nil⟩ hM ⟨hB, hname, F.word hinst rfl⟩ ⟨xPc_blind G _ H, fun U hU hW => ⟨by rw [List.map_cons, show xcv G (xR b) = .ref (gB G + b.toNat) from e1], hU, State.WarmedH.trans F.2.2.2.2.2.2.1 hW⟩⟩ rfl (by rw [List.length_map]) (hL.1.1) rfl (by show 2 * 0 + ((S.map (xcv G)).map fun v => v.category).sum ≤ 8; rw [xcsum_eq]; omega) hI hfit
  exact x_runR hlo hr (fun v h1 H1 locs1 hv hH1 hQ1 y1 y3 hlo1 => by
    obtain ⟨q1, q2⟩ := xrv_push G hv S
    rw [q1]
    exact hQ1 p e R s m args below meth c H1 locs1 ls F hH1 hL (q2 hS2) y1 y3 hlo1)
theorem xl_callSW {G : XG} {M K : XM} {d pc : Nat} {L S : List XV} {h : XH} {Q : XV → XH → Prop} {X : Nat → XH → Prop} {index : Nat} {As S9 L0 : List XV} (hI : decode M.2.1 pc = .ok (.invokestatic index, 3)) (hK : xCalH K As.length) (hlk : Cond.methodLink M.1.cls index K.1 ∈ lw_tbl) (hS8 : xcsum S ≤ 8) (hstat : Cond.static K.1 ∈ lw_tbl) (hlen : (xent As).length ≤ K.2.2.1) (hst : As.reverse ++ S = S9) (hL0 : xpad K.2.2.1 As = L0)
    (w : xwp G K d 0 L0 [] h (fun v h1 => xwp G M (d + 1) (pc + 3) L (xpush v S) h1 Q X) (fun _ _ => False)) : xwp G M (d + 1) pc L S9 h Q X := by
  obtain ⟨hcd, hini, hmax, hnm, hsig, hpl⟩ := hK
  subst hst
  intro p e R s m args below meth c H locs ls F hH hL hS hz hy hlo
  have hS1 := (xall_app hS).1
  have hS2 : ∀ v ∈ S, xok v := (xall_app hS).2
  have hAs : ∀ v ∈ As, xok v := fun v hv => hS1 v (List.mem_reverse.mpr hv)
  have hM := x_metH (K := K) F.base hH hAs hlen hpl hL0 w
  have hfit := F.fits hH hz hy
  have hM2 : Met (gl G) K.1 [.codeWith K.1 K.2.1 K.2.2.1 K.2.2.2.1 K.2.2.2.2] (xrm G H d) (xPc G As H) (xQc G (fun v h1 => xwp G M (d + 1) (pc + 3) L (xpush v S) h1 Q X)) (xmc G H) (xms G H) (fun q => gB G ≤ q) := by
    refine MetFree.mono hM (fun _ _ q => q) (fun _ _ _ _ _ q => q) ?_
    intro a st o t _ hq
    rcases hq with hq | ⟨q, -, E, ce, L9, ⟨k, h1, -, -, -, hf⟩, -⟩
    · exact hq
    · exact hf.elim
  have est : (As.reverse ++ S).map (xcv G) = (As.map (xcv G)).reverse ++ S.map (xcv G) := by
    rw [List.map_append, List.map_reverse]
  rw [est]
  have hR2 := F.2.2.2.2.2.2.2.2.1
  have hcw : vx_CSW R s args M.1.cls index K.1 K.2.1 K.2.2.1 K.2.2.2.1 K.2.2.2.2 [.codeWith K.1 K.2.1 K.2.2.1 K.2.2.2.1 K.2.2.2.2] (xrm G H d) (xmc G H) (xms G H) As.length :=
    vx_cwSW (Ts := va_wsS M.1.cls index K.1 [.codeWith K.1 K.2.1 K.2.2.1 K.2.2.2.1 K.2.2.2.2]) As.length (fun w hw => by
      rcases List.mem_append.mp hw with hw | hw
      · rcases List.mem_cons.mp hw with rfl | hw
        · exact F.word hlk rfl
        · rcases List.mem_cons.mp hw with rfl | hw
          · exact F.word hstat rfl
          · rw [List.mem_singleton.mp hw]; exact F.word hini rfl
      · rw [List.mem_singleton.mp hw]; exact F.word hcd rfl) (goodIn_sub (fun _ q => q) rfl) rfl rfl rfl ⟨hnm.1, hnm.2, hsig⟩ ⟨F.2.2.2.2.2.2.2.1, by show 8 + (K.2.2.1 + 11) + 64 * d ≤ R.locals; omega⟩
  have hr0 := vx_runSW (As := As.map (xcv G)) (rest := S.map (xcv G)) (Ts := []) (g := F0 m pc ls ((As.map (xcv G)).reverse ++ S.map (xcv G))) (locs := locs) (cells := H.size - s.heap.size) (slots := xtsl H - xtsl s.heap) (below := below) (e := e) (meth := meth) ⟨F.1, F.2.1, F.2.2.1, F.2.2.2.2.2.1, fun w hw => absurd hw List.not_mem_nil⟩ hM2 hcw ⟨xPc_blind G _ H, fun U hU hW => ⟨rfl, hU, State.WarmedH.trans F.2.2.2.2.2.2.1 hW⟩⟩ rfl (by rw [List.length_map]) (hL.1.1) rfl (by show 2 * 0 + ((S.map (xcv G)).map fun v => v.category).sum ≤ 8; rw [xcsum_eq]; omega) hI hfit
  have hr : vx_Run p (gl G) e R s m args below meth c H locs (H.size - s.heap.size) (xtsl H - xtsl s.heap) (xmc G H) (xms G H) (F0 m pc ls ((As.map (xcv G)).reverse ++ S.map (xcv G))) (S.map (xcv G)) (xQc G (fun v h1 => xwp G M (d + 1) (pc + 3) L (xpush v S) h1 Q X) (As.map (xcv G)).toArray) (xXc G (fun _ _ => False)) (fun q => gB G ≤ q) := fun T hT X9 => Or.inl (hr0 T hT X9)
  exact x_runR hlo hr (fun v h1 H1 locs1 hv hH1 hQ1 y1 y3 hlo1 => by
    obtain ⟨q1, q2⟩ := xrv_push G hv S
    rw [q1]
    exact hQ1 p e R s m args below meth c H1 locs1 ls F hH1 hL (q2 hS2) y1 y3 hlo1)

end
