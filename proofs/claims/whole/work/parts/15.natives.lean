/-! ===== natives: arraycopy, clone, getClass, a class constant; rows of rows ===== -/
section XNAT
/-- the contents of a cell, all at once -/
def xup (h : XH) (a : Int) (f : Int → Int) : XH := (h.1, h.2.1, fun b => if b = a then f else h.2.2.1 b, h.2.2.2)
theorem xtg_up (h : XH) (a : Int) (f : Int → Int) (b : Int) : xtg (xup h a f) b = xtg h b := rfl
theorem xln_up (h : XH) (a : Int) (f : Int → Int) (b : Int) : xln (xup h a f) b = xln h b := rfl
theorem xnx_up (h : XH) (a : Int) (f : Int → Int) : xnx (xup h a f) = xnx h := rfl
theorem xsl_up (h : XH) (a : Int) (f : Int → Int) : xsl (xup h a f) = xsl h := rfl
theorem xpl_up (h : XH) (a : Int) (f : Int → Int) (b j : Int) : xpl (xup h a f) b j = if b = a then f j else xpl h b j := by
  show (if b = a then f else h.2.2.1 b) j = _
  unfold xpl
  split <;> rfl
def xcpf (f g : Int → Int) (sp dp n : Int) : Int → Int := fun j => if dp ≤ j ∧ j < dp + n then f (sp + (j - dp)) else g j
theorem xHR.upA {G : XG} {h : XH} {H H1 : Heap} (hH : xHR G h H) {r : Int} (hr : 0 ≤ r) (hz : H1.size = H.size) (ho : ∀ q : Nat, q ≠ gB G + r.toNat → H1[q]? = H[q]?) (hs : xtsl H1 ≤ xtsl H) {f : Int → Int}
    (hc : r < xnx h → xCR G H1 (gB G + r.toNat) (xtg h r) (xln h r) f) : xHR G (xup h r f) H1 := by
  obtain ⟨h1, h2, h3, h4, h5, h6, h7, h8, h9, h10⟩ := hH
  refine ⟨by rw [hz]; exact h1, h2, h3, by show (xtsl H1 : Int) ≤ xtsl (gs G).heap + xsl h; omega, h5, fun q hq => ?_, fun a ha => ?_, h8, h9, fun j hj => ?_⟩
  · rw [ho q (by omega)]; exact h6 q hq
  · by_cases e : (a : Int) = r
    · subst e
      have h11 := hc ha
      rw [Int.toNat_natCast] at h11
      have e1 : xpl (xup h (a : Int) f) (a : Int) = f := by
        funext j
        rw [xpl_up, if_pos rfl]
      show xCR G H1 (gB G + a) (xtg h a) (xln h a) (xpl (xup h (a : Int) f) (a : Int))
      rw [e1]
      exact h11
    · have e1 : xpl (xup h r f) (a : Int) = xpl h a := by
        funext j
        rw [xpl_up, if_neg e]
      show xCR G H1 (gB G + a) (xtg h a) (xln h a) (xpl (xup h r f) (a : Int))
      rw [e1]
      exact (h7 a ha).kept (ho _ (by omega))
  · obtain ⟨a, b⟩ := h10 j hj
    refine ⟨a, ?_⟩
    have e1 : xpl (xup h r f) (-2 - (j : Int)) = xpl h (-2 - (j : Int)) := by
      funext i
      rw [xpl_up, if_neg (by omega)]
    show xCRw G H1 (gd G j) (xtg h (-2 - (j : Int))) (xln h (-2 - (j : Int))) (xpl (xup h r f) (-2 - (j : Int)))
    rw [e1]
    exact b.kept (ho _ (by omega))
theorem xi_clampI {a : Int} (h : xiR a) (h0 : 0 ≤ a) : ((Int32.ofInt a).toNatClampNeg : Int) = a := by rw [xi_clamp h]; omega
theorem xi_nneg {a : Int} (h : xiR a) (h0 : 0 ≤ a) : ¬ Int32.ofInt a < 0 := by
  rw [show (0 : Int32) = Int32.ofInt 0 from rfl, xi_lt h xi_z]
  omega
def xac3 (t : Nat) : Bool := t == 100 || t == 101 || t == 110
theorem xfits3 (G : XG) {t : Nat} (h : xac3 t = true) (x : Int) : fits (xaft t) (xcv G (xaty t, x)) = true := by
  simp only [xac3, Bool.or_eq_true, beq_iff_eq] at h
  rcases h with (rfl | rfl) | rfl
  · rfl
  · rfl
  · show fits _ (xadr G x) = true
    rcases xadr_cases G x with ⟨q, -, e⟩ | ⟨-, e⟩ <;> rw [e] <;> rfl
/-- an object of the classes that the lists hold: its cell, and that it may stand in an Object[] -/
theorem xaos_cell {G : XG} {M : XM} {d : Nat} {p : Program} {e : Env} {R : Room} {s : State} {m : MethodId} {args : Array Value} {meth : Method} {c : Code} (F : xFx G M d p e R s m args meth c) {h : XH} {H : Heap} (hH : xHR G h H) {v : Int} (hv : xaos (xtg h v) = true) :
    ∃ (q : Nat) (cellV : Cell) (kC : Class) (comp : ClassId), xadr G v = .ref q ∧ H[q]? = some cellV ∧ (∀ z, cellV.vm ≠ .statics z) ∧ s.vm.classes[cellV.cls]? = some kC ∧ s.vm.findClass "java/lang/Object" = some comp ∧ s.vm.assignable cellV.cls comp = true := by
  have key : ∀ (ci : Nat) (r : vw_C), xtg h v = ci → xCL[ci]? = some r → ci < 100 → Cond.castable r.1 "java/lang/Object" ∈ lw_tbl → ∃ (q : Nat) (cellV : Cell) (kC : Class) (comp : ClassId), xadr G v = .ref q ∧ H[q]? = some cellV ∧ (∀ z, cellV.vm ≠ .statics z) ∧ s.vm.classes[cellV.cls]? = some kC ∧ s.vm.findClass "java/lang/Object" = some comp ∧ s.vm.assignable cellV.cls comp = true := by
    intro ci r h1 h2 h3 h4
    obtain ⟨qv, ev, ⟨cellV, g1, g2, g3, g4⟩, -⟩ := xcellw hH (F.2.2.2.2.2.2.2.2.2.2.2.2.2.2.2) h1 h2 h3
    obtain ⟨-, hfcC, kC, hkC, hkind⟩ := F.known h2
    have hcast := va_Nw.warmC F.2.2.2.2.2.2.1 (F.off h4 rfl)
    obtain ⟨c0, t1, f1, f2, f3⟩ := Cond.castable_spec (va_Nw.use (A := args) rfl hcast)
    cases hfcC.symm.trans f1
    exact ⟨qv, cellV, kC, t1, ev, g1, (fun z hh => by have := g3.2; rw [hh] at this; cases this), by rw [g2]; exact hkC, f2, by rw [g2]; exact f3⟩
  simp only [xaos, Bool.or_eq_true, beq_iff_eq] at hv
  rcases hv with (hv | hv) | hv
  · exact key 4 _ hv rfl (by decide) (by decide +kernel)
  · exact key 5 _ hv rfl (by decide) (by decide +kernel)
  · exact key 9 _ hv rfl (by decide) (by decide +kernel)
theorem xcs_list (S : List XV) (G : XG) : ((S.map (xcv G)).map fun v => v.category).sum = xcsum S := xcsum_eq G S
theorem xr_arraycopy {G : XG} {M : XM} {d pc : Nat} {L S : List XV} {h : XH} {Q : XV → XH → Prop} {X : Nat → XH → Prop} {src dst sp dp n : Int} {t index : Nat} (hI : decode M.2.1 pc = .ok (.invokestatic index, 3)) (hlk : Cond.methodLink M.1.cls index arraycopyName ∈ lw_tbl) (hnat : Cond.native arraycopyName ∈ lw_tbl) (hstat : Cond.static arraycopyName ∈ lw_tbl) (hini : Cond.initialized "java/lang/System" ∈ lw_tbl)
    (h3 : xac3 t = true) (hs : xtg h src = t) (hd : xtg h dst = t) (hd0 : 0 ≤ dst) (a1 : 0 ≤ sp) (a2 : 0 ≤ dp) (a3 : 0 ≤ n) (a4 : sp + n ≤ xln h src) (a5 : dp + n ≤ xln h dst)
    (hel : t = 110 → ∀ i, sp ≤ i → i < sp + n → xpl h src i = -1 ∨ xaos (xtg h (xpl h src i)) = true) (hdep : 1 ≤ d) (hS8 : xcsum S ≤ 8)
    (k9 : xwp G M d (pc + 3) L S (xup h dst (xcpf (xpl h src) (xpl h dst) sp dp n)) Q X) : xwp G M d pc L (xI n :: xI dp :: xR dst :: xI sp :: xR src :: S) h Q X := by
  intro p e R s m args below meth c H locs ls F hH hL hS hz hy hlo
  have ht : 100 ≤ t ∧ t < 200 ∧ xaok t = true := by
    have h3' := h3
    simp only [xac3, Bool.or_eq_true, beq_iff_eq] at h3'
    rcases h3' with (rfl | rfl) | rfl <;> exact ⟨by decide, by decide, by decide⟩
  obtain ⟨qs, cell, e1, e2, e3, e4, k1, k2, k3, ks, e5⟩ := xarrw hH (F.2.2.2.2.2.2.2.2.2.2.2.2.2.2.2) hs ht.1 ht.2.1
  obtain ⟨qd, d1, d2, d3, d4, d5⟩ := xarr hH hd0 hd ht.1 ht.2.1
  rw [hH.adr hd0] at d1
  cases d1
  have rsp : xiR sp := ⟨by omega, by omega⟩
  have rdp : xiR dp := ⟨by omega, by omega⟩
  have rn : xiR n := ⟨by omega, by omega⟩
  rw [show F0 m pc ls (List.map (xcv G) (xI n :: xI dp :: xR dst :: xI sp :: xR src :: S)) = F0 m pc ls (.int (Int32.ofInt n) :: .int (Int32.ofInt dp) :: .ref (gB G + dst.toNat) :: .int (Int32.ofInt sp) :: .ref qs :: S.map (xcv G)) from by simp only [List.map_cons]; rw [show xcv G (xR dst) = xadr G dst from rfl, show xcv G (xR src) = xadr G src from rfl, hH.adr hd0, e1]; rfl]
  obtain ⟨hA1, hA2, hA3⟩ := F.arr (t := t) ht.2.2
  obtain ⟨-, k0, hk0, cm0, hkk0⟩ := State.isArrayOf_alike F.2.2.2.2.2.2.1.alike (k1 ht.2.2)
  obtain ⟨-, k1, hk1, cm1, hkk1⟩ := hA1 (xln h dst).toNat (fun j => xcv G (xaty t, xpl h dst (j : Int)))
  have q1 := xi_clampI rsp a1
  have q2 := xi_clampI rdp a2
  have q3 := xi_clampI rn a3
  have hR1 := F.2.2.2.2.2.2.2.1
  have hR2 := F.2.2.2.2.2.2.2.2.1
  intro T hT Y9
  obtain ⟨vm', X', step⟩ := Y9.arraycopy F.1 F.2.2.2.2.2.1 (F.word hlk rfl) (F.word hnat rfl) (F.word hstat rfl) (F.word hini rfl) (src := qs) (dst := gB G + dst.toNat) (cs := cell) (cd := arrV (gA G t) (xln h dst).toNat (fun j => xcv G (xaty t, xpl h dst (j : Int)))) (srcPos := Int32.ofInt sp) (destPos := Int32.ofInt dp) (n := Int32.ofInt n) (by rw [hT]; exact e4) (by rw [hT]; exact d4)
    (fun _ h => by have := k3.2; rw [h] at this; cases this) (fun _ h => by cases h) k3.1 (fun h => by cases h) hk0 hk1 hkk0 hkk1 (by simp) (xi_nneg rsp a1) (xi_nneg rdp a2) (xi_nneg rn a3)
    (by have := ks.1; rw [xi_to rsp, xi_to rn]; omega)
    (by rw [xi_to rdp, xi_to rn, arrV_size]; omega)
    (fun vm₁ hal i hi => by
      have e9 : cell.slots.getD ((Int32.ofInt sp).toNatClampNeg + i) .null = xcv G (xaty t, xpl h src (((Int32.ofInt sp).toNatClampNeg + i : Nat) : Int)) := by
        rw [Array.getD_eq_getD_getElem?, ks.2.2 _ (by omega)]
        rfl
      rw [e9]
      refine ⟨xfits3 G h3 _, ?_⟩
      have h3' := h3
      simp only [xac3, Bool.or_eq_true, beq_iff_eq] at h3'
      rcases h3' with (rfl | rfl) | rfl
      · exact trivial
      · exact trivial
      · rcases hel rfl (((Int32.ofInt sp).toNatClampNeg + i : Nat) : Int) (by omega) (by omega) with z | z
        · show (T.setVm vm₁).takes cm1 (xadr G _)
          rw [z, show xadr G (-1) = .null from rfl]
          exact trivial
        · obtain ⟨q, cellV, kC, comp, b1, b2, b3, b4, b5, b6⟩ := xaos_cell F hH z
          show (T.setVm vm₁).takes cm1 (xadr G _)
          rw [b1]
          obtain ⟨kA, comp', r1, r2, r3, -⟩ := hA2
          cases hk1.symm.trans r1
          cases hkk1.symm.trans r2
          cases b5.symm.trans r3
          obtain ⟨kE, hkE, -⟩ := Vm.findClass_spec r3
          obtain ⟨kC', hkC', -⟩ := hal.2.2 _ _ b4
          obtain ⟨kE', hkE', -⟩ := hal.2.2 _ _ hkE
          refine ⟨cellV, (show T.heap[q]? = some cellV by rw [hT]; exact b2), b3, ⟨kC', hkC'⟩, ⟨kE', hkE'⟩, ?_⟩
          show vm₁.assignable _ _ = true
          rw [hal.assignable]
          exact b6)
    (g := F0 m pc ls (.int (Int32.ofInt n) :: .int (Int32.ofInt dp) :: .ref (gB G + dst.toNat) :: .int (Int32.ofInt sp) :: .ref qs :: S.map (xcv G))) rfl (by rw [F.2.2.1]; exact hL.1.1) (rest := S.map (xcv G)) rfl (by rw [F.2.1]; exact hI) (by omega) (by have hw : nativeFrameWords "java/lang/System" "arraycopy" 5 = 7 := (by decide); show 2 * 0 + _ + _ ≤ _; rw [hw, xcsum_eq]; omega)
  have c9 : copied cell (arrV (gA G t) (xln h dst).toNat (fun j => xcv G (xaty t, xpl h dst (j : Int)))) (Int32.ofInt sp) (Int32.ofInt dp) (Int32.ofInt n) = arrV (gA G t) (xln h dst).toNat (fun j => xcv G (xaty t, xcpf (xpl h src) (xpl h dst) sp dp n (j : Int))) := by
    refine (va_copiedX (fun z : Int => xcv G (xaty t, z)) cell (gA G t) (fun j : Nat => xpl h src (j : Int)) (fun j : Nat => xpl h dst (j : Int)) ks.2.2 (by omega)).trans ?_
    congr 1
    funext j
    congr 2
    unfold va_cpy xcpf
    by_cases hj : (Int32.ofInt dp).toNatClampNeg ≤ j ∧ j < (Int32.ofInt dp).toNatClampNeg + (Int32.ofInt n).toNatClampNeg
    · rw [if_pos hj, if_pos (by omega)]
      refine congrArg (xpl h src) ?_
      omega
    · rw [if_neg hj, if_neg (by omega)]
  rw [c9] at X' step
  have hl : gB G + dst.toNat < H.size := (Array.getElem?_eq_some_iff.mp d4).1
  obtain ⟨H1, hH1⟩ : ∃ H1, H1 = H.setIfInBounds (gB G + dst.toNat) (arrV (gA G t) (xln h dst).toNat (fun j => xcv G (xaty t, xcpf (xpl h src) (xpl h dst) sp dp n (j : Int)))) := ⟨_, rfl⟩
  have hheap : ((T.setVm vm').setCell (gB G + dst.toNat) (arrV (gA G t) (xln h dst).toNat (fun j => xcv G (xaty t, xcpf (xpl h src) (xpl h dst) sp dp n (j : Int))))).heap = H1 := by rw [hH1, ← hT]; rfl
  have z1 : H1.size = H.size := by rw [hH1]; simp
  have z2 : ∀ q : Nat, q ≠ gB G + dst.toNat → H1[q]? = H[q]? := fun q hq => by rw [hH1]; simp [Array.getElem?_setIfInBounds, Ne.symm hq]
  have z3 : H1[gB G + dst.toNat]? = some (arrV (gA G t) (xln h dst).toNat (fun j => xcv G (xaty t, xcpf (xpl h src) (xpl h dst) sp dp n (j : Int)))) := by rw [hH1]; simp [Array.getElem?_setIfInBounds, hl]
  have K : W p (gl G) e R s m args below meth c H1 (locs ++ (cell.stretch (Int32.ofInt sp).toNatClampNeg (Int32.ofInt n).toNatClampNeg).zipIdx.map fun q => (⟨gB G + dst.toNat, (Int32.ofInt dp).toNatClampNeg + q.2⟩ : Loc)) (H.size - s.heap.size) (xtsl H - xtsl s.heap) (xEnd G Q X below args s R) (F0 m (pc + 3) ls (S.map (xcv G))) := by
    refine x_know fun y1 y2 y3 y4 => x_tight ?_
    have hs1 : xtsl H1 ≤ xtsl H := by omega
    refine k9 p e R s m args below meth c H1 _ ls F (hH.upA hd0 z1 z2 hs1 fun hlt => ?_) hL (fun v hv => hS v (List.mem_cons_of_mem _ (List.mem_cons_of_mem _ (List.mem_cons_of_mem _ (List.mem_cons_of_mem _ (List.mem_cons_of_mem _ hv)))))) y1 y3 (fun z hz2 => ?_)
    · rw [hd]
      refine ⟨fun hh => by omega, fun _ _ => ⟨d2, d3, z3, fun j hj => ?_⟩⟩
      unfold xcpf
      split
      · rename_i hjj
        have e6 := e5 (sp + ((j : Int) - dp)).toNat (by omega)
        rw [show (((sp + ((j : Int) - dp)).toNat : Nat) : Int) = sp + ((j : Int) - dp) by omega] at e6
        exact e6
      · exact d5 j hj
    · rcases List.mem_append.mp hz2 with w | w
      · exact hlo z w
      · obtain ⟨y, -, hy9⟩ := List.mem_map.mp w
        rw [← hy9]
        exact Nat.le_add_right _ _
  obtain ⟨t9, b1, b2⟩ := K _ hheap X'
  exact ⟨t9, step t9 b1, b2⟩
theorem arrV_ext {cI : ClassId} {N : Nat} {f g : Nat → Value} (h : ∀ j, j < N → f j = g j) : arrV cI N f = arrV cI N g := by
  unfold arrV
  congr 1
  congr 1
  funext j
  exact h j.val j.isLt
theorem xr_clone {G : XG} {M : XM} {d pc : Nat} {L S : List XV} {h : XH} {Q : XV → XH → Prop} {X : Nat → XH → Prop} {a : Int} {t index : Nat} {ad : String} (hI : decode M.2.1 pc = .ok (.invokevirtual index, 3)) (hlk : Cond.methodLink M.1.cls index ⟨ad, "clone", "()Ljava/lang/Object;"⟩ ∈ lw_tbl) (hsame : Cond.sameMethod ad "java/lang/Object" "clone" "()Ljava/lang/Object;" ∈ lw_tbl)
    (hnat : Cond.native ⟨"java/lang/Object", "clone", "()Ljava/lang/Object;"⟩ ∈ lw_tbl) (hinst : Cond.instanceMethod ⟨"java/lang/Object", "clone", "()Ljava/lang/Object;"⟩ ∈ lw_tbl) (hsel : Cond.selects ad ⟨ad, "clone", "()Ljava/lang/Object;"⟩ ⟨"java/lang/Object", "clone", "()Ljava/lang/Object;"⟩ ∈ lw_tbl) (hcl : Cond.castable ad "java/lang/Cloneable" ∈ lw_tbl)
    (had : "[" ++ (xaft t).toString = ad) (h3 : xac3 t = true) (ht9 : xtg h a = t) (ha9 : 0 ≤ a) (hdep : 1 ≤ d) (hS8 : xcsum S ≤ 8) (hn : xnx h + 1 ≤ xKC) (hsl : xsl h + xln h a ≤ xKS)
    (k9 : xwp G M d (pc + 3) L (xR (xnx h) :: S) (xmk h t (xln h a) (fun j => if 0 ≤ j ∧ j < xln h a then xpl h a j else 0)) Q X) : xwp G M d pc L (xR a :: S) h Q X := by
  intro p e R s m args below meth c H locs ls F hH hL hS hz hy hlo
  have ht : 100 ≤ t ∧ t < 200 ∧ xaok t = true := by
    have h3' := h3
    simp only [xac3, Bool.or_eq_true, beq_iff_eq] at h3'
    rcases h3' with (rfl | rfl) | rfl <;> exact ⟨by decide, by decide, by decide⟩
  obtain ⟨q, e1, e2, e3, e4, e5⟩ := xarr hH ha9 ht9 ht.1 ht.2.1
  rw [show F0 m pc ls (List.map (xcv G) (xR a :: S)) = F0 m pc ls (.ref q :: S.map (xcv G)) from by simp only [List.map_cons]; rw [show xcv G (xR a) = xadr G a from rfl, e1]]
  obtain ⟨hA1, hA2, hA3⟩ := F.arr (t := t) ht.2.2
  rw [had] at hA3
  have hR1 := F.2.2.2.2.2.2.2.1
  have hR2 := F.2.2.2.2.2.2.2.2.1
  obtain ⟨N, hN⟩ : ∃ N : Nat, N = (xln h a).toNat := ⟨_, rfl⟩
  rw [← hN] at e4
  have hNi : (N : Int) = xln h a := by omega
  obtain ⟨hC1, hC2⟩ := xn_room F hH hz hy (n := N) hn (by omega)
  have hcast := va_Nw.warmC F.2.2.2.2.2.2.1 (F.off hcl rfl)
  obtain ⟨c0, t0', f1, f2, f3⟩ := Cond.castable_spec (va_Nw.use (A := args) rfl hcast)
  cases hA3.symm.trans f1
  intro T hT Y9
  have hcellT : T.heap[q]? = some (arrV (gA G t) N (fun j => xcv G (xaty t, xpl h a (j : Int)))) := by rw [hT]; exact e4
  obtain ⟨-, kA, hkA, comp, hkind⟩ := State.isArrayOf_alike Y9.warmed.alike (hA1 0 (fun _ => .null))
  obtain ⟨-, kS, hkS, compS, hkindS⟩ := hA1 0 (fun _ => .null)
  obtain ⟨vm', X', st⟩ := Y9.cloneArray F.1 F.2.2.2.2.2.1 (F.word hlk rfl) (F.word hsame rfl) (F.word hnat rfl) (F.word hinst rfl) (F.word hsel rfl) (a := q) hcellT (fun k h => by cases h) (fun h => by cases h) hA3 f2 f3
    (fun i v hv => by
      have hk' : T.vm.classes[gA G t]? = some kA := hkA
      have hi : i < N := by
        have := (Array.getElem?_eq_some_iff.mp hv).1
        rw [arrV_size] at this
        exact this
      rw [arrV_read _ _ hi] at hv
      have hv2 : xcv G (xaty t, xpl h a (i : Int)) = v := Option.some.inj hv
      have := xfits3 G h3 (xpl h a (i : Int))
      rw [hv2] at this
      show T.fitsSlot (gA G t) .none i v = true
      simpa [State.fitsSlot, State.slotType?, hk', hkind] using this)
    (g := F0 m pc ls (.ref q :: S.map (xcv G))) rfl (by rw [F.2.2.1]; exact hL.1.1) rfl (by rw [F.2.1]; exact hI) (by omega) (by show 2 * 0 + _ + 14 ≤ _; rw [xcsum_eq]; omega) hC1 (by rw [arrV_size]; exact hC2) (hloader := Vm.clonesLoader_of_array hkS hkindS)
  rw [arrV_size] at X'
  obtain ⟨H1, hH1⟩ : ∃ H1, H1 = H.push (arrV (gA G t) N (fun j => xcv G (xaty t, xpl h a (j : Int)))) := ⟨_, rfl⟩
  have hheap : ((T.setVm vm').pushCell { cls := (arrV (gA G t) N (fun j => xcv G (xaty t, xpl h a (j : Int)))).cls, slots := (arrV (gA G t) N (fun j => xcv G (xaty t, xpl h a (j : Int)))).slots }).heap = H1 := by rw [hH1, ← hT]; rfl
  have z1 : H1.size = H.size + 1 := by rw [hH1, Array.size_push]
  have z2 : H1[H.size]? = some (arrV (gA G t) N (fun j => xcv G (xaty t, xpl h a (j : Int)))) := by rw [hH1, Array.getElem?_push_size]
  have z3 : ∀ q : Nat, q < H.size → H1[q]? = H[q]? := fun q hq => by rw [hH1, Array.getElem?_push, if_neg (Nat.ne_of_lt hq)]
  have K : W p (gl G) e R s m args below meth c H1 locs (H.size - s.heap.size + 1) (xtsl H - xtsl s.heap + N) (xEnd G Q X below args s R) (F0 m (pc + 3) ls (.ref H.size :: S.map (xcv G))) := by
    refine x_know fun y1 y2 y3 y4 => x_tight ?_
    have e7 : (.ref H.size : Value) :: S.map (xcv G) = (xR (xnx h) :: S).map (xcv G) := by rw [List.map_cons, xnew_adr hH]
    rw [e7]
    refine k9 p e R s m args below meth c H1 locs ls F (hH.push z1 z3 (by omega) hn (by omega) ?_) hL (xac trivial (xal1 hS).2) y1 y3 hlo
    refine ⟨fun hh => by omega, fun _ _ => ⟨e2, e3, ?_, fun j hj => ?_⟩⟩
    · rw [z2, ← hN]
      congr 1
      refine arrV_ext fun j hj => ?_
      dsimp only
      rw [if_pos (show (0 : Int) ≤ (j : Int) ∧ (j : Int) < xln h a from ⟨by omega, by omega⟩)]
    · dsimp only
      rw [if_pos (show (0 : Int) ≤ (j : Int) ∧ (j : Int) < xln h a from ⟨by omega, hj⟩)]
      exact e5 j hj
  obtain ⟨t9, b1, b2⟩ := K _ hheap X'
  rw [← hT] at b1
  exact ⟨t9, st t9 b1, b2⟩
theorem xr_mmin {G : XG} {M : XM} {d pc : Nat} {L S : List XV} {h : XH} {Q : XV → XH → Prop} {X : Nat → XH → Prop} {a b : Int} {index : Nat} (hI : decode M.2.1 pc = .ok (.invokestatic index, 3)) (hlk : Cond.methodLink M.1.cls index Lib.Math.min.name ∈ lw_tbl) (hstat : Cond.static Lib.Math.min.name ∈ lw_tbl) (hini : Cond.initialized "java/lang/Math" ∈ lw_tbl) (hcode : Cond.code Lib.Math.min.name Lib.Math.min.code 2 (some .int) ∈ lw_tbl) (hdep : 1 ≤ d) (hS8 : xcsum S ≤ 8) (k9 : xwp G M d (pc + 3) L (xI (min a b) :: S) h Q X) : xwp G M d pc L (xI b :: xI a :: S) h Q X := by
  intro p e R s m args below meth c H locs ls F hH hL hS hz hy hlo
  have hR1 := F.2.2.2.2.2.2.2.1
  have hR2 := F.2.2.2.2.2.2.2.2.1
  obtain ⟨hF1, hF2⟩ := F.fits hH hz hy
  have hb : xiR b := (xal1 hS).1
  have ha : xiR a := (xal1 (xal1 hS).2).1
  refine va_mmin F.1 F.2.1 (by rw [F.2.2.1]; exact hL.1.1.symm) F.2.2.2.2.2.1 (F.word hlk rfl) (F.word hstat rfl) (F.word hini rfl) (F.word hcode rfl) (by omega) (by rw [xcsum_eq]; omega) (by omega) (by omega) hI ?_
  have e9 : (if Int32.ofInt b < Int32.ofInt a then Int32.ofInt b else Int32.ofInt a) = Int32.ofInt (min a b) := by
    by_cases z : b < a
    · rw [if_pos ((xi_lt hb ha).mpr z)]; congr 1; omega
    · rw [if_neg (fun q => z ((xi_lt hb ha).mp q))]; congr 1; omega
  rw [e9]
  exact k9 p e R s m args below meth c H locs ls F hH hL (xac (show xiR (min a b) from ⟨by omega, by omega⟩) (xal1 (xal1 hS).2).2) hz hy hlo
theorem xr_mmax {G : XG} {M : XM} {d pc : Nat} {L S : List XV} {h : XH} {Q : XV → XH → Prop} {X : Nat → XH → Prop} {a b : Int} {index : Nat} (hI : decode M.2.1 pc = .ok (.invokestatic index, 3)) (hlk : Cond.methodLink M.1.cls index Lib.Math.max.name ∈ lw_tbl) (hstat : Cond.static Lib.Math.max.name ∈ lw_tbl) (hini : Cond.initialized "java/lang/Math" ∈ lw_tbl) (hcode : Cond.code Lib.Math.max.name Lib.Math.max.code 2 (some .int) ∈ lw_tbl) (hdep : 1 ≤ d) (hS8 : xcsum S ≤ 8) (k9 : xwp G M d (pc + 3) L (xI (max a b) :: S) h Q X) : xwp G M d pc L (xI b :: xI a :: S) h Q X := by
  intro p e R s m args below meth c H locs ls F hH hL hS hz hy hlo
  have hR1 := F.2.2.2.2.2.2.2.1
  have hR2 := F.2.2.2.2.2.2.2.2.1
  obtain ⟨hF1, hF2⟩ := F.fits hH hz hy
  have hb : xiR b := (xal1 hS).1
  have ha : xiR a := (xal1 (xal1 hS).2).1
  refine va_mmax F.1 F.2.1 (by rw [F.2.2.1]; exact hL.1.1.symm) F.2.2.2.2.2.1 (F.word hlk rfl) (F.word hstat rfl) (F.word hini rfl) (F.word hcode rfl) (by omega) (by rw [xcsum_eq]; omega) (by omega) (by omega) hI ?_
  have e9 : (if Int32.ofInt a < Int32.ofInt b then Int32.ofInt b else Int32.ofInt a) = Int32.ofInt (max a b) := by
    by_cases z : a < b
    · rw [if_pos ((xi_lt ha hb).mpr z)]; congr 1; omega
    · rw [if_neg (fun q => z ((xi_lt ha hb).mp q))]; congr 1; omega
  rw [e9]
  exact k9 p e R s m args below meth c H locs ls F hH hL (xac (show xiR (max a b) from ⟨by omega, by omega⟩) (xal1 (xal1 hS).2).2) hz hy hlo
theorem xr_getClass {G : XG} {M : XM} {d pc : Nat} {L S : List XV} {h : XH} {Q : XV → XH → Prop} {X : Nat → XH → Prop} {a : Int} {index : Nat} (hI : decode M.2.1 pc = .ok (.invokevirtual index, 3)) (hlk : Cond.methodLink M.1.cls index ⟨"java/lang/Object", "getClass", "()Ljava/lang/Class;"⟩ ∈ lw_tbl) (hdecl : Cond.declares ⟨"java/lang/Object", "getClass", "()Ljava/lang/Class;"⟩ ∈ lw_tbl)
    (hsel : Cond.selects "[Ljava/lang/Object;" ⟨"java/lang/Object", "getClass", "()Ljava/lang/Class;"⟩ ⟨"java/lang/Object", "getClass", "()Ljava/lang/Class;"⟩ ∈ lw_tbl) (hinst : Cond.instanceMethod ⟨"java/lang/Object", "getClass", "()Ljava/lang/Class;"⟩ ∈ lw_tbl) (hnat : Cond.native ⟨"java/lang/Object", "getClass", "()Ljava/lang/Class;"⟩ ∈ lw_tbl)
    (ht : xtg h a = 110) (hdep : 1 ≤ d) (hS8 : xcsum S ≤ 8) (k9 : xwp G M d (pc + 3) L (xR (-106) :: S) h Q X) : xwp G M d pc L (xR a :: S) h Q X := by
  intro p e R s m args below meth c H locs ls F hH hL hS hz hy hlo
  obtain ⟨q, cell, e1, e2, e3, e4, k1, k2, k3, ks, e5⟩ := xarrw hH (F.2.2.2.2.2.2.2.2.2.2.2.2.2.2.2) ht (by decide) (by decide)
  rw [show F0 m pc ls (List.map (xcv G) (xR a :: S)) = F0 m pc ls (.ref q :: S.map (xcv G)) from by simp only [List.map_cons]; rw [show xcv G (xR a) = xadr G a from rfl, e1]]
  obtain ⟨hA1, hA2, hA3⟩ := F.arr (t := 110) rfl
  have hR1 := F.2.2.2.2.2.2.2.1
  have hR2 := F.2.2.2.2.2.2.2.2.1
  have hB := F.base
  have hM := va_Mi.moved F.2.2.2.2.2.2.1.alike hB.2.2.2.2.2.2.2.2.2.1
  refine va_getC F.1 F.2.1 (by rw [F.2.2.1]; exact hL.1.1.symm) F.2.2.2.2.2.1 (F.word hlk rfl) (F.any hdecl rfl) (F.word hsel rfl) (F.word hinst rfl) (F.word hnat rfl) hM ⟨_, e4, k3.2, by rw [k2 (by decide), ← show "[" ++ (xaft 110).toString = "[Ljava/lang/Object;" from by decide +kernel]; exact hA3⟩ (by omega) (by rw [xcsum_eq]; omega) hI ?_
  have e7 : (.ref (gd G 104) : Value) :: S.map (xcv G) = (xR (-106) :: S).map (xcv G) := by rw [List.map_cons]; rfl
  rw [e7]
  exact k9 p e R s m args below meth c H locs ls F hH hL (xac trivial (xal1 hS).2) hz hy hlo
theorem xr_ldcM {G : XG} {M : XM} {d pc : Nat} {L S : List XV} {h : XH} {Q : XV → XH → Prop} {X : Nat → XH → Prop} {index : Nat} (hI : decode M.2.1 pc = .ok (.ldc index, 2)) (hw : Cond.classLink M.1.cls index "[Ljava/lang/Object;" ∈ lw_tbl) (k9 : xwp G M d (pc + 2) L (xR (-106) :: S) h Q X) : xwp G M d pc L S h Q X := by
  intro p e R s m args below meth c H locs ls F hH hL hS hz hy hlo
  have hM := va_Mi.moved F.2.2.2.2.2.2.1.alike F.base.2.2.2.2.2.2.2.2.2.1
  refine va_ldcM F.1 F.2.1 F.2.2.2.2.2.1 (F.word hw rfl) hM hI ?_
  have e7 : (.ref (gd G 104) : Value) :: S.map (xcv G) = (xR (-106) :: S).map (xcv G) := by rw [List.map_cons]; rfl
  rw [e7]
  exact k9 p e R s m args below meth c H locs ls F hH hL (xac trivial hS) hz hy hlo
end XNAT
