/-! ===== the rows of the judgement: throws, catches, natives ===== -/
section XT
theorem x_throw0 {p : Program} {l : Launch} {e : Env} {R : Room} {s : State} {m : MethodId} {args : Array Value} {below : List Frame} {meth : Method} {c : Code} {H : Heap} {locs : List Loc} {cells slots : Nat} {free : Addr → Prop} {ls : Array Slot} {rest : List Value} {Qc : Array Value → State → Outcome → State → Prop} {XC : String → State → State → Prop} {cc : ByteArray} {pc : Nat} (hexec : p.tables.exec = Jvm.exec) (hb : c.code = cc) (hl : l.stackTraces = false) {own cls : String} {names : List String} {ik ic mc ms : Nat} {A : Nat → Prop}
    (hown : s.vm.findClass own = some m.cls) (hcls : Bundle.fit cls = true) (hnames : ∀ n ∈ names, Bundle.fit n = true)
    (hk : (Cond.classLink own ik cls).before args s = true) (hini : (Cond.initialized cls).before args s = true) (hat : ∀ w ∈ vx_at0 own ic cls names, w.before args s = true)
    (hgood : ∀ w ∈ Cond.classLink own ik cls :: Cond.initialized cls :: vx_at0 own ic cls names, vx_ot w = true)
    (hU : vx_Zq Bundle.tN "UNASSIGNED_STACK" Bundle.steD A s s.heap) (hN : vx_Zq Bundle.tN "SUPPRESSED_SENTINEL" Bundle.listD A s s.heap) (hS : va_S A s.heap H locs) (hsize : ls.size = c.maxLocals)
    (d0 : decode cc pc = .ok (.new ik, 3)) (d3 : decode cc (pc + 3) = .ok (.dup, 1)) (d4 : decode cc (pc + 4) = .ok (.invokespecial ic, 3)) (d7 : decode cc (pc + 7) = .ok (.athrow, 1))
    (hout : ∀ x ∈ c.exceptionTable.toList, covers x (pc + 7) = false)
    (hRframes : names.length + 3 < R.frames) (hRlocals : (rest.map fun v => v.category).sum + (13 * (names.length + 1) + 42) ≤ R.locals) (hRcells : cells + 1 ≤ R.cells) (hRslots : slots + 6 ≤ R.slots) (hlocks : meth.locks = false)
    (hx : ∀ t : State, s.vm.Alike t.vm → t.heap.size = H.size + 1 → xtsl t.heap ≤ xtsl H + 6 → (∀ q : Nat, q < H.size → t.heap[q]? = H[q]?) → XC cls s t)
    (hf : ∀ z ∈ locs, free z.base) (hc : cells + 1 ≤ mc) (hs : slots + 6 ≤ ms) :
    W p l e R s m args below meth c H locs cells slots (vx_MQ below Qc XC args s mc ms free) (F0 m pc ls rest) := by
  intro T hT X
  have htr : e.platform.stackTraces = false := (show e.platform.stackTraces = l.stackTraces by rw [X.admits.platform]).trans hl
  have Y := vx_rebase X (R' := { frames := R.frames, locals := R.locals, cells := 1, slots := 6 }) (Nat.le_refl _) (Nat.le_refl _) hRcells hRslots
  obtain ⟨s', hA⟩ : ∃ z, z = (T.setVm s.vm).setFrames (.invoking m args :: below) := ⟨_, rfl⟩
  rw [← hA] at Y
  have hvm : s'.vm = s.vm := by rw [hA]; rfl
  have hhp : s'.heap = H := by rw [hA]; exact hT
  have hW0 : s.WarmedH s'.vm := by rw [hvm]; exact State.WarmedH.refl s
  have hat' : ∀ w ∈ vx_at0 own ic cls names, w.before args s' = true := fun w hw => vx_ot_at hW0 hvm.symm (hgood w (List.mem_cons_of_mem _ (List.mem_cons_of_mem _ hw))) (hat w hw)
  have hk' : (Cond.classLink own ik cls).before args s' = true := vx_ot_at hW0 hvm.symm (hgood _ List.mem_cons_self) hk
  have hini' : (Cond.initialized cls).before args s' = true := vx_ot_at hW0 hvm.symm (hgood _ (List.mem_cons_of_mem _ List.mem_cons_self)) hini
  have hU' : vx_Zq Bundle.tN "UNASSIGNED_STACK" Bundle.steD A s' s'.heap := by rw [hhp]; exact vx_Zq.moved hW0.alike (hU.kept hS.2.1)
  have hN' : vx_Zq Bundle.tN "SUPPRESSED_SENTINEL" Bundle.listD A s' s'.heap := by rw [hhp]; exact vx_Zq.moved hW0.alike (hN.kept hS.2.1)
  have h : ∀ w ∈ Bundle.ownAtoms0 own ic cls names, w.before args s' = true := vx_own hat' (vx_isRefq hU'.1) (vx_isRefq hN'.1) hU'.2.word hN'.2.word
  have hown' : s'.vm.findClass own = some m.cls := by rw [hvm]; exact hown
  have hins : (Cond.instantiable cls 6).before args s' = true := h _ (by simp [Bundle.ownAtoms0])
  obtain ⟨vm₁, cX, kX, hfX, hkX, -, -, X₁, st1⟩ := Y.newCold hexec (own := own) (C := cls) (index := ik) (n := 6) hown' hk' hins hini'
    (g := F0 m pc ls rest) rfl (by rw [hb]; exact d0) (Nat.le_refl _) (Nat.le_refl _)
  generalize hT1 : (T.setVm vm₁).pushCell { cls := cX, slots := kX.instanceTypes.map defaultValue, vm := .none } = T1 at X₁ st1
  have hcat : (Value.ref T.heap.size).category = 1 := rfl
  have hcellA : T1.heap[T.heap.size]? = some (freshCell cX kX) := by rw [← hT1]; exact State.heap_pushCell_size _ _
  have d3' : decode c.code (pc + 3) = .ok (.dup, 1) := by rw [hb]; exact d3
  obtain ⟨U, hsteps, hrun, hend, hW, hsame, ce, hce, hO⟩ := X₁.ctorThrow0 hexec htr (own := own) (cls := cls) (names := names) (ic := ic) hown' hcls hnames h (fun x hx => nomatch hx) hfX hkX hcellA (by rw [hhp, hT]; exact Nat.le_refl _)
    (g := { method := m, pc := pc + 4, locals := ls, stack := .ref T.heap.size :: .ref T.heap.size :: rest, locked := none }) rfl hsize rfl rfl (rest := rest) rfl
    (by rw [hb]; exact d4) (by rw [hb]; exact d7) hout hRframes (by simp only [List.map_cons, List.sum_cons, hcat]; omega) hlocks
  have z9 := hsame
  obtain ⟨f1, f2⟩ := vx_frame hsame
  have f3 : U.heap.size ≤ H.size + (0 + 1) := by
    have := z9.2.2.1
    rw [hhp] at this
    exact this
  have f4 : H.size < U.heap.size := by
    have := (Array.getElem?_eq_some_iff.mp hce).1
    rw [hT] at this
    exact this
  have f5 : xtsl U.heap ≤ xtsl H + 6 := by
    have r0 := Y.room
    simp only [State.hasRoom, Bool.and_eq_true] at r0
    have b0 : s'.slotsTrue = true := r0.2
    have b1 := State.slotsTrue_of_sameButNew b0 z9
    have c0 : s'.slotsUsed = xtsl H := by
      rw [← hhp]
      simpa [State.slotsTrue, xtsl] using b0
    have c1 : U.slotsUsed = xtsl U.heap := by
      simpa [State.slotsTrue, xtsl] using b1
    have c2 : U.slotsUsed = s'.slotsUsed + _ := z9.2.2.2.1
    have c3 := z9.2.2.2.2.1
    omega
  have hWs : s.WarmedH U.vm := State.WarmedH.trans hW0 hW
  have hcl : s.vm.findClass cls = some ce.cls := by
    have h9 := hO.cls
    rw [hvm] at h9
    exact h9
  have hall : s.sameButNew ({ U with vm := s.vm } : State) locs mc ms := by
    subst hA
    obtain ⟨e1, e2⟩ := hsame
    rw [State.setFrames_setFrames] at e1
    have h2 : (T.setVm s.vm).sameButNew ({ U with vm := s.vm } : State) [] (0 + 1) (0 + 6) := ⟨e1, e2⟩
    have h3 := X.same.trans h2
    rw [List.append_nil] at h3
    exact h3.mono hc hs
  refine ⟨U, ?_, .threw T.heap.size, hrun, hend, Or.inr ⟨T.heap.size, rfl, cls, ce, locs, hx U hWs.alike (by rw [hhp] at f1; omega) f5 (fun q hq => f2 q (by rw [hhp]; exact hq) (fun z hz => nomatch hz) |>.trans (by rw [hhp])), hce, hO.vm, hcl, hWs, hall, hf⟩⟩
  refine st1 _ ?_
  show Steps p.tables e below (T1.setTop { method := m, pc := pc + 3, locals := ls, stack := .ref T.heap.size :: rest, locked := none }) _
  jvm_step X₁.here [X₁.here.top, hexec, d3', Value.category]
  exact hsteps
/-- a good word, or one of four kinds that stay all the same -/
def xgw : Cond → Bool
  | .castable _ _ => true
  | .declares _ => true
  | .methodLinkNest _ _ _ _ => true
  | .fieldLinkNest _ _ _ _ _ _ => true
  | w => goodWord w
theorem xgw_ot {w : Cond} (h : xgw w = true) : vx_ot w = true := by
  unfold vx_ot
  cases w <;> first | rfl | (simp only [xgw] at h; rw [h]; simp)
theorem xFx.any {G : XG} {M : XM} {d : Nat} {p : Program} {e : Env} {R : Room} {s : State} {m : MethodId} {args : Array Value} {meth : Method} {c : Code} (F : xFx G M d p e R s m args meth c) {w : Cond} (hw : w ∈ lw_tbl) (hg : xgw w = true) : w.before args s = true := by
  cases w with
  | castable a b => exact va_Nw.use rfl (va_Nw.warmC F.2.2.2.2.2.2.1 (F.off hw rfl))
  | declares a => exact va_Nw.use rfl (va_Nw.warmD F.2.2.2.2.2.2.1 (F.off hw rfl))
  | methodLinkNest a b c d => exact va_Nw.use rfl (va_Nw.warmM F.2.2.2.2.2.2.1 (F.off hw rfl))
  | fieldLinkNest a b c d e f => exact va_Nw.use rfl (va_Nw.warmF F.2.2.2.2.2.2.1 (F.off hw rfl))
  | _ => exact F.word hw hg
/-- throw new E() -/
theorem xr_throw {G : XG} {M : XM} {d pc : Nat} {L S : List XV} {h : XH} {Q : XV → XH → Prop} {X : Nat → XH → Prop} {k ik ic : Nat} {names : List String} (hcls : Bundle.fit (xex k) = true) (hnames : ∀ n ∈ names, Bundle.fit n = true) (hk : k < 3)
    (hw1 : Cond.classLink M.1.cls ik (xex k) ∈ lw_tbl) (hw2 : Cond.initialized (xex k) ∈ lw_tbl) (hat : ∀ w ∈ vx_at0 M.1.cls ic (xex k) names, w ∈ lw_tbl) (hgd : ∀ w ∈ vx_at0 M.1.cls ic (xex k) names, xgw w = true)
    (d0 : decode M.2.1 pc = .ok (.new ik, 3)) (d3 : decode M.2.1 (pc + 3) = .ok (.dup, 1)) (d4 : decode M.2.1 (pc + 4) = .ok (.invokespecial ic, 3)) (d7 : decode M.2.1 (pc + 7) = .ok (.athrow, 1))
    (hno : M.2.2.2.2 = []) (hnl : names.length ≤ 3) (hd : 7 ≤ d) (hS8 : xcsum S ≤ 8) (hn : xnx h + 1 ≤ xKC) (hs : xsl h + 6 ≤ xKS) (kx : X k (xmk h 300 6 (fun _ => 0))) : xwp G M d pc L S h Q X := by
  intro p e R s m args below meth c H locs ls F hH hL hS hz hy hlo
  obtain ⟨hl0, -, -, -, -, -, -, hU, hN, -⟩ := F.base
  obtain ⟨hC1, hC2⟩ := xn_room F hH hz hy (n := 6) hn hs
  have hR1 := F.2.2.2.2.2.2.2.1
  have hR2 := F.2.2.2.2.2.2.2.2.1
  refine x_throw0 (A := fun a => gB G ≤ a) (cls := xex k) (names := names) (ik := ik) (ic := ic) F.1 F.2.1 hl0 F.2.2.2.2.2.1 hcls hnames (F.word hw1 rfl) (F.word hw2 rfl) (fun w hw => F.any (hat w hw) (hgd w hw)) ?_ (vx_Zq.moved F.2.2.2.2.2.2.1.alike (hU.kept F.keep)) (vx_Zq.moved F.2.2.2.2.2.2.1.alike (hN.kept F.keep)) (F.vaS hH hz hlo) (by rw [hL.1.1]; exact F.2.2.1.symm) d0 d3 d4 d7 (F.nohand hno) (by omega) ?_ hC1 hC2 F.2.2.2.2.1 ?_ hlo hC1 hC2
  · intro w hw
    rcases List.mem_cons.mp hw with rfl | hw
    · rfl
    · rcases List.mem_cons.mp hw with rfl | hw
      · rfl
      · exact xgw_ot (hgd w hw)
  · rw [xcsum_eq]; omega
  · intro t hal z1 z2 z3
    exact ⟨k, _, rfl, hk, hH.push (t := 300) (n := 6) (c := fun _ => 0) z1 z3 (by omega) hn hs (xCR.other (by decide)), kx⟩
theorem xr_objInit {G : XG} {M : XM} {d pc : Nat} {L S : List XV} {h : XH} {Q : XV → XH → Prop} {X : Nat → XH → Prop} {a : Int} {index : Nat} (hI : decode M.2.1 pc = .ok (.invokespecial index, 3)) (hlk : Cond.methodLink M.1.cls index Lib.objectInit ∈ lw_tbl) (hin : Cond.instanceMethod Lib.objectInit ∈ lw_tbl) (hcd : Cond.code Lib.objectInit ⟨#[0xb1]⟩ 1 none ∈ lw_tbl) (ha : 0 ≤ a) (hd : 1 ≤ d) (hS8 : xcsum S ≤ 8) (k9 : xwp G M d (pc + 3) L S h Q X) : xwp G M d pc L (xR a :: S) h Q X := by
  intro p e R s m args below meth c H locs ls F hH hL hS hz hy hlo
  have e1 : (xR a :: S).map (xcv G) = .ref (gB G + a.toNat) :: S.map (xcv G) := by rw [List.map_cons, show xcv G (xR a) = .ref (gB G + a.toNat) from hH.adr ha]
  rw [e1]
  have hR1 := F.2.2.2.2.2.2.2.1
  have hR2 := F.2.2.2.2.2.2.2.2.1
  exact W.objInit F.1 F.2.1 F.2.2.2.2.2.1 (F.word hlk rfl) (F.word hin rfl) (F.word hcd rfl) rfl (by rw [F.2.2.1]; exact hL.1.1) rfl hI (by omega) (by show 2 * 0 + ((S.map (xcv G)).map fun v => v.category).sum + 12 ≤ R.locals; rw [xcsum_eq]; omega) (k9 p e R s m args below meth c H locs ls F hH hL (xal1 hS).2 hz hy hlo)
theorem xr_callIN {G : XG} {M K : XM} {d pc : Nat} {L S : List XV} {h : XH} {Q : XV → XH → Prop} {X : Nat → XH → Prop} {index : Nat} {host : String} {As S9 L0 : List XV} {b : Int} (hI : decode M.2.1 pc = .ok (.invokespecial index, 3)) (hcd : Cond.code K.1 K.2.1 K.2.2.1 K.2.2.2.1 ∈ lw_tbl) (hini : Cond.initialized K.1.cls ∈ lw_tbl) (hlk : Cond.methodLinkNest M.1.cls index K.1 host ∈ lw_tbl) (hmax : K.2.2.1 ≤ 45) (hnm : K.1.cls ≠ "java/lang/invoke/MethodHandle" ∧ K.1.cls ≠ "java/lang/invoke/VarHandle") (hsig : (parseMethodDescriptor K.1.desc).map (fun d => d.parameters.length) = some As.length) (hpl : plainName K.1.cls = true) (hnoK : K.2.2.2.2 = []) (hnoM : M.2.2.2.2 = []) (hS8 : xcsum S ≤ 8) (hb0 : -1 < b) (hinst : Cond.instanceMethod K.1 ∈ lw_tbl) (hname : K.1.name = "<init>") (hret : K.2.2.2.1 = none) (hlen : (xent (xR b :: As)).length ≤ K.2.2.1) (hst : As.reverse ++ xR b :: S = S9) (hL0 : xpad K.2.2.1 (xR b :: As) = L0)
    (w : xwp G K d 0 L0 [] h (fun v h1 => xwp G M (d + 1) (pc + 3) L (xpush v S) h1 Q X) X) : xwp G M (d + 1) pc L S9 h Q X := by
  subst hst
  intro p e R s m args below meth c H locs ls F hH hL hS hz hy hlo
  have hS1 := (xall_app hS).1
  have hS2 : ∀ v ∈ S, xok v := (xal1 (xall_app hS).2).2
  have hAs : ∀ v ∈ As, xok v := fun v hv => hS1 v (List.mem_reverse.mpr hv)
  have hok : ∀ v ∈ (xR b :: As), xok v := xac (show True from trivial) hAs
  have hM := x_met (K := K) F.base hH hok hlen hpl hnoK hL0 w
  have hfit := F.fits hH hz hy
  have e1 : xadr G b = .ref (gB G + b.toNat) := hH.adr (by omega)
  have est : (As.reverse ++ xR b :: S).map (xcv G) = (As.map (xcv G)).reverse ++ .ref (gB G + b.toNat) :: S.map (xcv G) := by
    rw [List.map_append, List.map_reverse, List.map_cons, show xcv G (xR b) = .ref (gB G + b.toNat) from e1]
  rw [est]
  have hcn : va_CN R s args M.1.cls index K.1 host K.2.1 K.2.2.1 K.2.2.2.1 [.code K.1 K.2.1 K.2.2.1 K.2.2.2.1] (xrm G H d) (xmc G H) (xms G H) As.length := by
    refine ⟨⟨rfl, rfl, F.2.2.2.2.2.2.2.1, ?_, ?_, List.mem_cons_self⟩, F.word hcd rfl, F.word hini rfl, hnm, ?_, va_Nw.use rfl (va_Nw.warmM F.2.2.2.2.2.2.1 (F.off hlk rfl))⟩
    · have := F.2.2.2.2.2.2.2.2.1
      show 8 + (K.2.2.1 + 11) + 64 * d ≤ R.locals
      omega
    · intro w hw a' U hW
      rw [List.mem_singleton.mp hw]
      exact word_at hW (Or.inl rfl) (F.word hcd rfl)
    · intro sig h
      rw [h] at hsig
      exact (Option.some.inj hsig).symm
  rw [hret] at hcn hM
  have hr := vx_runIN (As := As.map (xcv G)) (rest := S.map (xcv G)) (Ts := []) (g := F0 m pc ls ((As.map (xcv G)).reverse ++ .ref (gB G + b.toNat) :: S.map (xcv G))) (locs := locs) (cells := H.size - s.heap.size) (slots := xtsl H - xtsl s.heap) (below := below) (e := e) (meth := meth) ⟨F.1, F.2.1, F.2.2.1, F.2.2.2.2.2.1, fun w hw => absurd hw List.not_mem_nil⟩ hM ⟨hcn, hname, F.word hinst rfl⟩ ⟨xPc_blind G _ H, fun U hU hW => ⟨by rw [List.map_cons, show xcv G (xR b) = .ref (gB G + b.toNat) from e1], hU, State.WarmedH.trans F.2.2.2.2.2.2.1 hW⟩⟩ rfl (by rw [List.length_map]) (hL.1.1) rfl (by show 2 * 0 + ((S.map (xcv G)).map fun v => v.category).sum ≤ 8; rw [xcsum_eq]; omega) hI hfit
  exact x_run F (F.nohand hnoM) hlo hfit hr (fun v h1 H1 locs1 hv hH1 hQ1 y1 y3 hlo1 => by
    obtain ⟨q1, q2⟩ := xrv_push G hv S
    rw [q1]
    exact hQ1 p e R s m args below meth c H1 locs1 ls F hH1 hL (q2 hS2) y1 y3 hlo1) (fun _ _ q => q)
theorem xr_callSW {G : XG} {M K : XM} {d pc : Nat} {L S : List XV} {h : XH} {Q : XV → XH → Prop} {X : Nat → XH → Prop} {index : Nat} {As S9 L0 : List XV} (hI : decode M.2.1 pc = .ok (.invokestatic index, 3)) (hcd : Cond.codeWith K.1 K.2.1 K.2.2.1 K.2.2.2.1 K.2.2.2.2 ∈ lw_tbl) (hini : Cond.initialized K.1.cls ∈ lw_tbl) (hlk : Cond.methodLink M.1.cls index K.1 ∈ lw_tbl) (hmax : K.2.2.1 ≤ 45) (hnm : K.1.cls ≠ "java/lang/invoke/MethodHandle" ∧ K.1.cls ≠ "java/lang/invoke/VarHandle") (hsig : (parseMethodDescriptor K.1.desc).map (fun d => d.parameters.length) = some As.length) (hpl : plainName K.1.cls = true) (hnoM : M.2.2.2.2 = []) (hS8 : xcsum S ≤ 8) (hstat : Cond.static K.1 ∈ lw_tbl) (hlen : (xent As).length ≤ K.2.2.1) (hst : As.reverse ++ S = S9) (hL0 : xpad K.2.2.1 As = L0)
    (w : xwp G K d 0 L0 [] h (fun v h1 => xwp G M (d + 1) (pc + 3) L (xpush v S) h1 Q X) (fun _ _ => False)) : xwp G M (d + 1) pc L S9 h Q X := by
  subst hst
  intro p e R s m args below meth c H locs ls F hH hL hS hz hy hlo
  have hS1 := (xall_app hS).1
  have hS2 : ∀ v ∈ S, xok v := (xall_app hS).2
  have hAs : ∀ v ∈ As, xok v := fun v hv => hS1 v (List.mem_reverse.mpr hv)
  have hM := x_metH (K := K) F.base hH hAs hlen hpl hL0 w
  have hfit := F.fits hH hz hy
  have hM2 : Met (gl G) K.1 [.codeWith K.1 K.2.1 K.2.2.1 K.2.2.2.1 K.2.2.2.2] (xrm G H d) (xPc G As H) (xQc G (fun v h1 => xwp G M (d + 1) (pc + 3) L (xpush v S) h1 Q X)) (xmc G H) (xms G H) (fun q => gB G ≤ q) := by
    refine MetFree.mono hM (fun _ _ q => q) (fun _ _ _ _ _ q => q) ?_
    intro a st o t _ hq
    rcases hq with hq | ⟨q, -, E, ce, L9, ⟨k, h1, -, -, -, hf⟩, -⟩
    · exact hq
    · exact hf.elim
  have est : (As.reverse ++ S).map (xcv G) = (As.map (xcv G)).reverse ++ S.map (xcv G) := by
    rw [List.map_append, List.map_reverse]
  rw [est]
  have hR2 := F.2.2.2.2.2.2.2.2.1
  have hcw : vx_CSW R s args M.1.cls index K.1 K.2.1 K.2.2.1 K.2.2.2.1 K.2.2.2.2 [.codeWith K.1 K.2.1 K.2.2.1 K.2.2.2.1 K.2.2.2.2] (xrm G H d) (xmc G H) (xms G H) As.length :=
    vx_cwSW (Ts := va_wsS M.1.cls index K.1 [.codeWith K.1 K.2.1 K.2.2.1 K.2.2.2.1 K.2.2.2.2]) As.length (fun w hw => by
      rcases List.mem_append.mp hw with hw | hw
      · rcases List.mem_cons.mp hw with rfl | hw
        · exact F.word hlk rfl
        · rcases List.mem_cons.mp hw with rfl | hw
          · exact F.word hstat rfl
          · rw [List.mem_singleton.mp hw]; exact F.word hini rfl
      · rw [List.mem_singleton.mp hw]; exact F.word hcd rfl) (goodIn_sub (fun _ q => q) rfl) rfl rfl rfl ⟨hnm.1, hnm.2, hsig⟩ ⟨F.2.2.2.2.2.2.2.1, by show 8 + (K.2.2.1 + 11) + 64 * d ≤ R.locals; omega⟩
  have hr0 := vx_runSW (As := As.map (xcv G)) (rest := S.map (xcv G)) (Ts := []) (g := F0 m pc ls ((As.map (xcv G)).reverse ++ S.map (xcv G))) (locs := locs) (cells := H.size - s.heap.size) (slots := xtsl H - xtsl s.heap) (below := below) (e := e) (meth := meth) ⟨F.1, F.2.1, F.2.2.1, F.2.2.2.2.2.1, fun w hw => absurd hw List.not_mem_nil⟩ hM2 hcw ⟨xPc_blind G _ H, fun U hU hW => ⟨rfl, hU, State.WarmedH.trans F.2.2.2.2.2.2.1 hW⟩⟩ rfl (by rw [List.length_map]) (hL.1.1) rfl (by show 2 * 0 + ((S.map (xcv G)).map fun v => v.category).sum ≤ 8; rw [xcsum_eq]; omega) hI hfit
  have hr : vx_Run p (gl G) e R s m args below meth c H locs (H.size - s.heap.size) (xtsl H - xtsl s.heap) (xmc G H) (xms G H) (F0 m pc ls ((As.map (xcv G)).reverse ++ S.map (xcv G))) (S.map (xcv G)) (xQc G (fun v h1 => xwp G M (d + 1) (pc + 3) L (xpush v S) h1 Q X) (As.map (xcv G)).toArray) (xXc G X) (fun q => gB G ≤ q) := fun T hT X9 => Or.inl (hr0 T hT X9)
  exact x_run F (F.nohand hnoM) hlo hfit hr (fun v h1 H1 locs1 hv hH1 hQ1 y1 y3 hlo1 => by
    obtain ⟨q1, q2⟩ := xrv_push G hv S
    rw [q1]
    exact hQ1 p e R s m args below meth c H1 locs1 ls F hH1 hL (q2 hS2) y1 y3 hlo1) (fun _ _ q => q)
/-- where the handlers of a method take the exception k thrown at pc -/
def xtakes (M : XM) (pc k hpc : Nat) : Prop := ∃ (pre : List (Nat × Nat × Nat × Nat)) (x : Nat × Nat × Nat × Nat) (suf : List (Nat × Nat × Nat × Nat)) (nm : String), M.2.2.2.2 = pre ++ x :: suf ∧ (∀ z ∈ pre, z.2.2.2 ≠ 0 ∧ ∃ n2 : String, Cond.classLink M.1.cls z.2.2.2 n2 ∈ lw_tbl ∧ (xex k, n2) ∈ xNC) ∧ (x.1 ≤ pc ∧ pc < x.2.1) ∧ x.2.2.1 = hpc ∧ x.2.2.2 ≠ 0 ∧ Cond.classLink M.1.cls x.2.2.2 nm ∈ lw_tbl ∧ Cond.castable (xex k) nm ∈ lw_tbl
theorem xr_callVH {G : XG} {M K : XM} {d pc : Nat} {L S : List XV} {h : XH} {Q : XV → XH → Prop} {X : Nat → XH → Prop} {b : Int} {index : Nat} {As S9 L0 : List XV} {X1 : Nat → XH → Prop} (hI : decode M.2.1 pc = .ok (.invokevirtual index, 3)) (hcd : Cond.code K.1 K.2.1 K.2.2.1 K.2.2.2.1 ∈ lw_tbl) (hini : Cond.initialized K.1.cls ∈ lw_tbl) (hlk : Cond.methodLink M.1.cls index K.1 ∈ lw_tbl) (hmax : K.2.2.1 ≤ 45) (hnm : K.1.cls ≠ "java/lang/invoke/MethodHandle" ∧ K.1.cls ≠ "java/lang/invoke/VarHandle") (hsig : (parseMethodDescriptor K.1.desc).map (fun d => d.parameters.length) = some As.length) (hpl : plainName K.1.cls = true) (hnoK : K.2.2.2.2 = []) (hS8 : xcsum S ≤ 8) {ci N : Nat} {C : String} {T : u_T} (hc : xCL[ci]? = some (C, T, N)) (hci : ci < 100) (htb : xtg h b = ci) (hinst : Cond.instanceMethod K.1 ∈ lw_tbl) (hsel : Cond.selects C K.1 K.1 ∈ lw_tbl) (hlen : (xent (xR b :: As)).length ≤ K.2.2.1) (hst : As.reverse ++ xR b :: S = S9) (hL0 : xpad K.2.2.1 (xR b :: As) = L0)
    (w : xwp G K d 0 L0 [] h (fun v h1 => xwp G M (d + 1) (pc + 3) L (xpush v S) h1 Q X) X1)
    (kx : ∀ (k : Nat) (h1 : XH), k < 3 → X1 k h1 → ∃ (hpc ln i : Nat), xtakes M pc k hpc ∧ i < M.2.2.1 ∧ ((ln = 1 ∧ ∃ k9 : Fin 4, (k9 : Nat) = i ∧ decode M.2.1 hpc = .ok (.astore_n k9, 1)) ∨ (ln = 2 ∧ decode M.2.1 hpc = .ok (.astore i, 2))) ∧ xwp G M (d + 1) (hpc + ln) (xset i xZ L) [] h1 Q X) : xwp G M (d + 1) pc L S9 h Q X := by
  subst hst
  intro p e R s m args below meth c H locs ls F hH hL hS hz hy hlo
  have hS1 := (xall_app hS).1
  have hS2 : ∀ v ∈ S, xok v := (xal1 (xall_app hS).2).2
  have hAs : ∀ v ∈ As, xok v := fun v hv => hS1 v (List.mem_reverse.mpr hv)
  have hok : ∀ v ∈ (xR b :: As), xok v := xac (show True from trivial) hAs
  have hM := x_met (K := K) F.base hH hok hlen hpl hnoK hL0 w
  have hfit := F.fits hH hz hy
  have hB := F.callB (K := K) (H := H) hcd hini hlk hmax hnm hsig
  obtain ⟨q, e1, ⟨cell, g1, g2, g3, g4⟩, e3⟩ := xcellw hH (F.2.2.2.2.2.2.2.2.2.2.2.2.2.2.2) htb hc hci
  have est : (As.reverse ++ xR b :: S).map (xcv G) = (As.map (xcv G)).reverse ++ .ref q :: S.map (xcv G) := by
    rw [List.map_append, List.map_reverse, List.map_cons, show xcv G (xR b) = .ref q from e1]
  rw [est]
  have hr := vx_runV (As := As.map (xcv G)) (rest := S.map (xcv G)) (Ts := []) (g := F0 m pc ls ((As.map (xcv G)).reverse ++ .ref q :: S.map (xcv G))) (locs := locs) (cells := H.size - s.heap.size) (slots := xtsl H - xtsl s.heap) (below := below) (e := e) (meth := meth) ⟨F.1, F.2.1, F.2.2.1, F.2.2.2.2.2.1, fun w hw => absurd hw List.not_mem_nil⟩ hM ⟨hB, F.word hinst rfl, F.word hsel rfl⟩ ⟨xPc_blind G _ H, ⟨cell, g1, g3.2, by rw [g2]; exact (F.known hc).2.1⟩, fun U hU hW => ⟨by rw [List.map_cons, show xcv G (xR b) = .ref q from e1], hU, State.WarmedH.trans F.2.2.2.2.2.2.1 hW⟩⟩ rfl (by rw [List.length_map]) (hL.1.1) rfl (by show 2 * 0 + ((S.map (xcv G)).map fun v => v.category).sum ≤ 8; rw [xcsum_eq]; omega) hI hfit
  intro T hT X9
  rcases hr T hT X9 with ⟨v, st₀, t, T', L9, h0, X', hL9, e1, e2, hq, st⟩ | ⟨q, st₀, t, T', L9, E, ce, h0, X', hL9, e1, e2, hx, hce, hcv, hcl, st⟩
  · obtain ⟨v1, h1, hv, hok, hH1, hQ⟩ := hq
    cases hv
    obtain ⟨y1, y2, y3, y4⟩ := x_same X'
    have hlo1 : ∀ q ∈ locs ++ L9, gB G ≤ q.base := fun q hq => by
      rcases List.mem_append.mp hq with z | z
      · exact hlo q z
      · exact hL9 q z
    obtain ⟨q1, q2⟩ := xrv_push G hok S
    have k1 := hQ p e R s m args below meth c T'.heap (locs ++ L9) ls F (by rw [e1]; exact hH1) hL (q2 hS2) y1 (by omega) hlo1
    rw [← q1] at k1
    have k2 := x_tight (cells := (H.size - s.heap.size) + xmc G H) (slots := (xtsl H - xtsl s.heap) + xms G H) k1
    obtain ⟨t2, a1, b1⟩ := k2 T' rfl X'
    exact ⟨t2, st t2 a1, b1⟩
  · obtain ⟨k, h1, rfl, hk, hH1, hX⟩ := hx
    obtain ⟨y1, y2, y3, y4⟩ := x_same X'
    have hlo1 : ∀ q ∈ locs ++ L9, gB G ≤ q.base := fun q hq => by
      rcases List.mem_append.mp hq with z | z
      · exact hlo q z
      · exact hL9 q z
    obtain ⟨hpc, ln, i, ⟨pre, x, suf, nm, hh1, hh2, hh3, hh4, hh5, hh6, hh7⟩, hi, hdec, kw⟩ := kx k h1 hk hX
    have htab : c.exceptionTable.toList = (tableOf pre) ++ ⟨x.1, x.2.1, x.2.2.1, x.2.2.2⟩ :: tableOf suf := by
      rw [F.2.2.2.2.2.2.2.2.2.2.2.2.2.1, hh1]
      unfold tableOf
      rw [List.map_append, List.map_cons]
    have k3 : ∀ ls9, lv_has ls9 M.2.2.1 ((i, .ref q) :: (xlvl G 0 L).filter (fun q => !(q.1 == i) && !(q.1 + 1 == i && q.2.category == 2))) → xLR G M.2.2.1 (xset i xZ L) ls9 := fun ls9 hl9 => by
      refine ⟨⟨hl9.1, hl9.2.1, fun q9 hq9 => ?_⟩, fun w9 hw9 hw7 => ?_⟩
      · obtain ⟨j, w9, h4, h5, h6⟩ := (xlvl_mem G _ 0 q9).mp hq9
        rw [Nat.zero_add] at h6
        subst h6
        rcases xset_get h4 h5 with ⟨h7, h8⟩ | ⟨h7, h8, h9, h10⟩
        · rw [h8] at h5; exact absurd h5 (by decide)
        · refine hl9.2.2 _ (List.mem_cons_of_mem _ (List.mem_filter.mpr ⟨(xlvl_mem G L 0 _).mpr ⟨j, w9, h8, h5, by rw [Nat.zero_add]⟩, ?_⟩))
          have e : ((xcv G w9).category == 2) = xcat2 w9 := by
            cases hcw : xcat2 w9
            · rw [xcat_ne G hcw]; rfl
            · rw [xcat_eq G hcw]; rfl
          show (!(j == i) && !(j + 1 == i && (xcv G w9).category == 2)) = true
          rw [e]
          simp only [Bool.and_eq_true, Bool.not_eq_true', beq_eq_false_iff_ne, Bool.and_eq_false_imp, beq_iff_eq]
          refine ⟨h7, fun q => ?_⟩
          cases hcw : xcat2 w9
          · rfl
          · exact absurd ⟨q, hcw⟩ h10
      · obtain ⟨j, hj⟩ := List.getElem?_of_mem hw9
        rcases xset_get hj hw7 with ⟨-, h8⟩ | ⟨-, h8, -⟩
        · rw [h8] at hw7; exact absurd hw7 (by decide)
        · exact hL.2 w9 (List.mem_of_getElem? h8) hw7
    have k4 : W p (gl G) e R s m args below meth c T'.heap (locs ++ L9) ((H.size - s.heap.size) + xmc G H) ((xtsl H - xtsl s.heap) + xms G H) (xEnd G Q X below args s R) (F0 m hpc ls [.ref q]) := by
      have k5 : ∀ ls9, lv_has ls9 M.2.2.1 ((i, .ref q) :: (xlvl G 0 L).filter (fun q => !(q.1 == i) && !(q.1 + 1 == i && q.2.category == 2))) → W p (gl G) e R s m args below meth c T'.heap (locs ++ L9) ((H.size - s.heap.size) + xmc G H) ((xtsl H - xtsl s.heap) + xms G H) (xEnd G Q X below args s R) (F0 m (hpc + ln) ls9 []) := fun ls9 hl9 =>
        x_tight (kw p e R s m args below meth c T'.heap (locs ++ L9) ls9 F (by rw [e1]; exact hH1) (k3 ls9 hl9) (fun v hv => absurd hv List.not_mem_nil) y1 (by omega) hlo1)
      rcases hdec with ⟨rfl, k9, hk9, hd9⟩ | ⟨rfl, hd9⟩
      · exact lv_astore_n F.1 F.2.1 hd9 hk9 hL.1 hi rfl k5
      · exact lv_astore F.1 F.2.1 hd9 hL.1 hi rfl k5
    obtain ⟨-, -, -, -, -, -, -, -, -, -, hNC⟩ := F.base
    have k2 := vx_catch (p := p) (l := gl G) (e := e) (R := R) (m := m) (args := args) (below := below) (H := T'.heap) (locs := locs ++ L9) (cells := (H.size - s.heap.size) + xmc G H) (slots := (xtsl H - xtsl s.heap) + xms G H) (Q := xEnd G Q X below args s R) (ls := ls) (rest := S.map (xcv G)) (pc := pc) (E := xex k) (ce := ce) (q := q) F.2.2.2.2.2.1 (tableOf pre) ⟨x.1, x.2.1, x.2.2.1, x.2.2.2⟩ (tableOf suf) htab
      (fun z hz => by
        obtain ⟨w9, hw9, rfl⟩ := List.mem_map.mp hz
        obtain ⟨z1, n2, z2, z3⟩ := hh2 w9 hw9
        exact Or.inr ⟨z1, n2, F.word z2 rfl, (hNC _ z3).moved F.2.2.2.2.2.2.1.alike⟩)
      (by simp only [covers, Bool.and_eq_true, decide_eq_true_eq]; exact hh3) hh5 (F.word hh6 rfl) (va_Nw.use rfl (va_Nw.warmC F.2.2.2.2.2.2.1 (F.off hh7 rfl))) (by rw [e1]; exact hce) hcv hcl (by rw [show (⟨x.1, x.2.1, x.2.2.1, x.2.2.2⟩ : ExceptionTableEntry).handlerPc = hpc from hh4]; exact k4)
    obtain ⟨t2, a1, b1⟩ := k2 T' rfl X'
    exact ⟨t2, st.trans a1, b1⟩
end XT
