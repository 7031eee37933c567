/-! ===== multi ===== -/
section
/-! the table of two dimensions -/
theorem xa_AO {t : FieldType} {A B : Array Value} {u U : State} (hvm : u.vm.Alike U.vm) (h : (Cond.arrayOver (.array t)).before A u = true) : (Cond.arrayOver (.array t)).before B U = true := by
  obtain ⟨comp, c, k, h1, h2, h3, h4, h5⟩ := arrayOverA_spec h
  obtain ⟨k', hk', he⟩ := hvm.2.2 _ _ h3
  have hi : (U.vm.classes.findIdx? fun (x : Class) => match x.kind with | .array component _ => component == comp | _ => false) = some c := by
    refine (va_idx_bare U.vm comp).symm.trans ?_
    first | rw [hvm.bare_eq] | rw [← hvm.bare_eq]
    exact (va_idx_bare u.vm comp).trans h2
  have hkind : k'.kind = .array comp (.array t) := by rw [he]; exact h4
  have f1 : U.vm.findClass (FieldType.array t).toString = some comp := by rw [hvm.findClass]; exact h1
  have f2 : U.vm.findClass ("[" ++ (FieldType.array t).toString) = some c := by rw [hvm.findClass]; exact h5
  unfold Cond.before Cond.holds
  simp only [Cond.value]
  rw [f1, Option.bind_some]
  refine (congrArg (fun o : Option Nat => (o.bind (fun c => (U.vm.classes[c]?).map fun (k : Class) => match k.kind with | .array _ ty => decide (ty = FieldType.array t) && decide (U.vm.findClass ("[" ++ (FieldType.array t).toString) = some c) | _ => false) == some true)) hi).trans ?_
  simp [hk', hkind, f2]
theorem arrV_same {c : ClassId} {N : Nat} {f g : Nat → Value} (h : ∀ j, j < N → f j = g j) : arrV c N f = arrV c N g := by
  have e : (fun j : Fin N => f j.val) = fun j : Fin N => g j.val := funext fun j => h j.val j.isLt
  unfold arrV
  rw [e]
theorem xa_outer (c : ClassId) (N h0 : Nat) : ∀ i, Jvm.Free.Multi.outerC c N h0 i = arrV c N (fun j => if j < i then .ref (h0 + 1 + j) else .null)
  | 0 => (arrV_new c N .null).trans (arrV_same fun j _ => by rw [if_neg (Nat.not_lt_zero j)])
  | i + 1 => by
    show (Jvm.Free.Multi.outerC c N h0 i).setSlot i (.ref (h0 + 1 + i)) = _
    rw [xa_outer c N h0 i, arrV_store]
    refine arrV_same fun j _ => ?_
    unfold updV
    by_cases e : j = i
    · rw [if_pos e, if_pos (by omega), e]
    · rw [if_neg e]
      dsimp only
      by_cases e2 : j < i
      · rw [if_pos e2, if_pos (by omega)]
      · rw [if_neg e2, if_neg (by omega)]
/-- thirteen rows of thirteen, and the array of them -/
def xmm (h : XH) (A : Int) : XH := (fun b => if b = A then 111 else if A < b ∧ b ≤ A + 13 then 100 else xtg h b, fun b => if A ≤ b ∧ b ≤ A + 13 then 13 else xln h b, fun b => if b = A then (fun j => A + 1 + j) else if A < b ∧ b ≤ A + 13 then (fun _ => 0) else xpl h b, A + 14, xsl h + 182)
theorem xn_multi {G : XG} {M : XM} {d pc : Nat} {L S : List XV} {h : XH} {Q : XV → XH → Prop} {X : Nat → XH → Prop} {index : Nat} {A : Int} (hI : decode M.2.1 pc = .ok (.multianewarray index 2, 4)) (hw : Cond.classLink M.1.cls index "[[I" ∈ lw_tbl) (hw2 : Cond.arrayOver (.array .int) ∈ lw_tbl) (hw3 : Cond.arrayClass .int ∈ lw_tbl) (hA : xnx h = A) (hn : xnx h + 14 ≤ xKC) (hs : xsl h + 182 ≤ xKS)
    (k9 : xwp G M d (pc + 4) L (xR A :: S) (xmm h A) Q X) : xwp G M d pc L (xI 13 :: xI 13 :: S) h Q X := by
  intro p e R s m args below meth c H locs ls F hH hL hS hz hy hlo T hT V
  subst hT
  subst hA
  have hr1 : T.heap.size - s.heap.size + (1 + 13) ≤ R.cells := by have := F.2.2.2.2.2.2.2.2.2.1; have := hH.1; omega
  have hr2 : xtsl T.heap - xtsl s.heap + (13 + 13 * 13) ≤ R.slots := by have := F.2.2.2.2.2.2.2.2.2.2.1; have := hH.2.2.2.1; omega
  obtain ⟨-, ⟨A0, hb⟩, -⟩ := F.base
  have hc13 : (Int32.ofInt 13).toNatClampNeg = 13 := by decide
  have hover : (Cond.arrayOver (.array .int)).before args s = true := xa_AO F.2.2.2.2.2.2.1.alike (hb _ hw2)
  have hI2 : decode c.code pc = .ok (.multianewarray index 2, 4) := by rw [F.2.1]; exact hI
  obtain ⟨vm₁, cA, comp, hW, fA, fC, -, -, V2, step⟩ := V.multianewarray2K (g := F0 m pc ls ((xI 13 :: xI 13 :: S).map (xcv G))) (ty := .int) (n := Int32.ofInt 13) (k := Int32.ofInt 13) (rest := S.map (xcv G)) F.1 F.2.2.2.2.2.1 (F.word hw rfl) hover (F.word hw3 rfl) rfl hI2 rfl (by decide) (by decide) (by rw [hc13]; decide) (by rw [hc13]; decide) (by rw [hc13]; decide) rfl rfl (by rw [hc13]; exact hr1) (by rw [hc13]; exact hr2)
  rw [hc13] at V2 step
  have eA : cA = gA G 111 := Option.some.inj (fA.symm.trans (F.arr (t := 111) rfl).2.2)
  have eC : comp = gA G 100 := Option.some.inj (fC.symm.trans (F.arr (t := 100) rfl).2.2)
  subst eA
  subst eC
  obtain ⟨z1, z2, z3, z4⟩ := Jvm.Free.Multi.fill_facts (T.setVm vm₁) (gA G 111) (gA G 100) 13 13 (defaultValue .int) 13
  have zo : ∀ a : Nat, a < T.heap.size → _ := fun a ha => Jvm.Free.Multi.fill_old (T.setVm vm₁) (gA G 111) (gA G 100) 13 13 (defaultValue .int) (a := a) ha 13
  have zi : ∀ j : Nat, j < 13 → _ := fun j hj => Jvm.Free.Multi.fill_inner (T.setVm vm₁) (gA G 111) (gA G 100) 13 13 (defaultValue .int) 13 j hj
  change _ = T.heap.size + 1 + 13 at z1
  change _[T.heap.size]? = some (Jvm.Free.Multi.outerC (gA G 111) 13 T.heap.size 13) at z2
  generalize hT1 : Jvm.Free.Multi.fill (T.setVm vm₁) (gA G 111) (gA G 100) 13 13 (defaultValue .int) 13 = T1 at *
  have zo2 : ∀ a : Nat, a < T.heap.size → T1.heap[a]? = T.heap[a]? := zo
  have zi2 : ∀ j : Nat, j < 13 → T1.heap[T.heap.size + 1 + j]? = some (Jvm.Free.Multi.innerC (gA G 100) 13 (defaultValue .int)) := zi
  obtain ⟨y1, y2, y3, y4⟩ := x_same V2
  obtain ⟨h1, h2, h3, h4, h5, h6, h7, h8, h9, h10⟩ := hH
  have eZ : T.heap.size = gB G + (xnx h).toNat := by omega
  have oC : Jvm.Free.Multi.outerC (gA G 111) 13 T.heap.size 13 = arrV (gA G 111) 13 (fun j => xcv G (2, xnx h + 1 + (j : Int))) := by
    rw [xa_outer, arrV_same (g := fun j => xcv G (2, xnx h + 1 + (j : Int)))]
    intro j hj
    rw [if_pos hj, eZ]
    show Value.ref (gB G + (xnx h).toNat + 1 + j) = xadr G (xnx h + 1 + (j : Int))
    unfold xadr
    rw [if_pos (by omega), show gB G + (xnx h).toNat + 1 + j = gB G + (xnx h + 1 + (j : Int)).toNat by omega]
  have iC : Jvm.Free.Multi.innerC (gA G 100) 13 (defaultValue .int) = arrV (gA G 100) 13 (fun _ => xcv G (0, 0)) := arrV_new _ _ _
  have g1 : ∀ a : Int, xtg (xmm h (xnx h)) a = if a = xnx h then 111 else if xnx h < a ∧ a ≤ xnx h + 13 then 100 else xtg h a := fun _ => rfl
  have g2 : ∀ a : Int, xln (xmm h (xnx h)) a = if xnx h ≤ a ∧ a ≤ xnx h + 13 then 13 else xln h a := fun _ => rfl
  have g3 : ∀ a : Int, xpl (xmm h (xnx h)) a = if a = xnx h then (fun j => xnx h + 1 + j) else if xnx h < a ∧ a ≤ xnx h + 13 then (fun _ => 0) else xpl h a := fun _ => rfl
  have hH1 : xHR G (xmm h (xnx h)) T1.heap := by
    refine ⟨?_, ?_, ?_, ?_, ?_, fun q hq => ?_, fun a ha => ?_, fun a ha => ?_, ?_, fun j hj => ?_⟩
    · show (T1.heap.size : Int) = gB G + (xnx h + 14); rw [z1]; omega
    · show 0 ≤ xnx h + 14; omega
    · show xnx h + 14 ≤ xKC; omega
    · show (xtsl T1.heap : Int) ≤ xtsl (gs G).heap + (xsl h + 182); omega
    · show xsl h + 182 ≤ xKS; omega
    · rw [zo2 q (by omega)]; exact h6 q hq
    · have ha' : (a : Int) < xnx h + 14 := ha
      rw [g1, g2, g3]
      by_cases e1 : (a : Int) = xnx h
      · rw [if_pos e1, if_pos e1, if_pos (by omega)]
        have e2 : gB G + a = T.heap.size := by omega
        rw [e2]
        exact ⟨fun q => absurd q (by decide), fun _ _ => ⟨by decide, by decide, by rw [z2, oC]; rfl, fun _ _ => trivial⟩⟩
      · rw [if_neg e1, if_neg e1]
        by_cases e3 : xnx h < (a : Int)
        · have e4 : xnx h < (a : Int) ∧ (a : Int) ≤ xnx h + 13 := ⟨e3, by omega⟩
          rw [if_pos e4, if_pos e4, if_pos (by omega)]
          have e2 : gB G + a = T.heap.size + 1 + (a - (xnx h).toNat - 1) := by omega
          rw [e2]
          exact ⟨fun q => absurd q (by decide), fun _ _ => ⟨by decide, by decide, by rw [zi2 _ (by omega), iC]; rfl, fun _ _ => xi_z⟩⟩
        · rw [if_neg (by omega), if_neg (by omega), if_neg (by omega)]
          exact (h7 a (by omega)).kept (zo2 _ (by omega))
    · have ha' : xnx h + 14 ≤ a := ha
      rw [g1, if_neg (by omega), if_neg (by omega)]
      exact h8 a (by omega)
    · rw [g1, if_neg (by omega), if_neg (by omega)]; exact h9
    · rw [g1, if_neg (by omega), if_neg (by omega)] at hj
      obtain ⟨a, b⟩ := h10 j hj
      refine ⟨a, ?_⟩
      rw [g1, g2, g3, if_neg (by omega), if_neg (by omega), if_neg (by omega), if_neg (by omega), if_neg (by omega)]
      exact b.kept (zo2 _ (by omega))
  have hlo2 : ∀ q ∈ locs ++ (List.range 13).map (fun j => (⟨T.heap.size, j⟩ : Loc)), gB G ≤ q.base := by
    intro q hq
    rcases List.mem_append.mp hq with hq | hq
    · exact hlo q hq
    · obtain ⟨j, -, rfl⟩ := List.mem_map.mp hq
      show gB G ≤ T.heap.size
      omega
  have hS2 : ∀ v ∈ xR (xnx h) :: S, xok v := xac (show True from trivial) (xal1 (xal1 hS).2).2
  have k2 := k9 p e R s m args below meth c T1.heap _ ls F hH1 hL hS2 y1 (by omega) hlo2
  obtain ⟨t, a1, b1⟩ := x_tight k2 T1 rfl V2
  refine ⟨t, step t ?_, b1⟩
  have e0 : xcv G (xR (xnx h)) = .ref T.heap.size := by
    show xadr G (xnx h) = _
    unfold xadr
    rw [if_pos h2, eZ]
  simp only [List.map_cons, e0] at a1
  exact a1

end
