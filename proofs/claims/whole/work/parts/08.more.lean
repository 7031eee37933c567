/-! ===== the rows of the judgement: arrays made, casts, statics, switches, other ends ===== -/
section XS
theorem xFx.base {G : XG} {M : XM} {d : Nat} {p : Program} {e : Env} {R : Room} {s : State} {m : MethodId} {args : Array Value} {meth : Method} {c : Code} (F : xFx G M d p e R s m args meth c) : xBase G := F.2.2.2.2.2.2.2.2.2.2.2.2.2.2.2
theorem xFx.keep {G : XG} {M : XM} {d : Nat} {p : Program} {e : Env} {R : Room} {s : State} {m : MethodId} {args : Array Value} {meth : Method} {c : Code} (F : xFx G M d p e R s m args meth c) : ∀ a : Nat, a < (gs G).heap.size → ¬ (fun a => gB G ≤ a) a → s.heap[a]? = (gs G).heap[a]? := fun a h1 _ => F.2.2.2.2.2.2.2.2.2.2.2.2.1 a h1
theorem xFx.vaS {G : XG} {M : XM} {d : Nat} {p : Program} {e : Env} {R : Room} {s : State} {m : MethodId} {args : Array Value} {meth : Method} {c : Code} (F : xFx G M d p e R s m args meth c) {h : XH} {H : Heap} {locs : List Loc} (hH : xHR G h H) (hz : s.heap.size ≤ H.size) (hlo : ∀ q ∈ locs, gB G ≤ q.base) : va_S (fun a => gB G ≤ a) s.heap H locs :=
  ⟨hz, fun q h1 h2 => by rw [hH.2.2.2.2.2.1 q (Nat.not_le.mp h2), F.2.2.2.2.2.2.2.2.2.2.2.2.1 q (Nat.not_le.mp h2)], hlo⟩
theorem xFx.off {G : XG} {M : XM} {d : Nat} {p : Program} {e : Env} {R : Room} {s : State} {m : MethodId} {args : Array Value} {meth : Method} {c : Code} (F : xFx G M d p e R s m args meth c) {w : Cond} (hw : w ∈ lw_tbl) (hg : w.onTables = true) : va_Nw w (gs G) := by
  obtain ⟨-, ⟨A0, hb⟩, -⟩ := F.base
  exact va_Nw.of hg (hb w hw)
theorem xn_room {G : XG} {M : XM} {d : Nat} {p : Program} {e : Env} {R : Room} {s : State} {m : MethodId} {args : Array Value} {meth : Method} {c : Code} (F : xFx G M d p e R s m args meth c) {h : XH} {H : Heap} (hH : xHR G h H) (hz : s.heap.size ≤ H.size) (hy : xtsl s.heap ≤ xtsl H) {n : Nat} (hn : xnx h + 1 ≤ xKC) (hs : xsl h + (n : Int) ≤ xKS) : (H.size - s.heap.size) + 1 ≤ R.cells ∧ (xtsl H - xtsl s.heap) + n ≤ R.slots :=
  ⟨by have := F.2.2.2.2.2.2.2.2.2.1; have := hH.1; omega, by have := F.2.2.2.2.2.2.2.2.2.2.1; have := hH.2.2.2.1; omega⟩
theorem xnew_adr {G : XG} {h : XH} {H : Heap} (hH : xHR G h H) : xcv G (xR (xnx h)) = .ref H.size := by
  show xadr G (xnx h) = _
  have e8 : gB G + (xnx h).toNat = H.size := by have := hH.1; have := hH.2.1; omega
  rw [hH.adr hH.2.1, e8]
theorem xr_newarray {G : XG} {M : XM} {d pc : Nat} {L S : List XV} {h : XH} {Q : XV → XH → Prop} {X : Nat → XH → Prop} {n : Int} {t : Nat} {at9 : ArrayType} (hI : decode M.2.1 pc = .ok (.newarray at9, 2)) (hty : newarray.typeOf at9 = xaft t) (hw : Cond.arrayClass (xaft t) ∈ lw_tbl) (ht : xaok t = true) (h1 : 100 ≤ t) (h2 : t < 200) (hcb : componentBytes (xaft t) ≤ 8) (hdf : ∀ G : XG, defaultValue (xaft t) = xcv G (xaty t, 0)) (hd0 : xok (xaty t, 0)) (h0 : 0 ≤ n) (hnb : n ≤ 60000000) (hn : xnx h + 1 ≤ xKC) (hs : xsl h + n ≤ xKS)
    (k9 : xwp G M d (pc + 2) L (xR (xnx h) :: S) (xmk h t n (fun _ => 0)) Q X) : xwp G M d pc L (xI n :: S) h Q X := by
  intro p e R s m args below meth c H locs ls F hH hL hS hz hy hlo
  have hnr : xiR n := ⟨by omega, by omega⟩
  obtain ⟨hC1, hC2⟩ := xn_room F hH hz hy (n := n.toNat) hn (by omega)
  have hneg : ¬ Int32.ofInt n < 0 := fun q => by
    have q2 : Int32.ofInt n < Int32.ofInt 0 := q
    rw [xi_lt hnr xi_z] at q2
    omega
  have hbb : n.toNat * componentBytes (xaft t) ≤ 536870912 := Nat.le_trans (Nat.mul_le_mul_left _ hcb) (by omega)
  refine va_newaK F.1 F.2.1 (by rw [hty]; exact F.word hw rfl) rfl hI rfl hneg (xi_clamp hnr) (by rw [hty]; exact hbb) hC1 hC2 rfl fun H1 cA d1 d2 d3 hAr hNm => ?_
  rw [hty] at d1 hNm
  have eA : cA = gA G t := Option.some.inj (hNm.symm.trans (F.arr ht).2.2)
  subst eA
  refine x_know fun y1 y2 y3 y4 => x_tight ?_
  have y5 : xtsl H1 ≤ xtsl s.heap + (xtsl H - xtsl s.heap + n.toNat) := y4
  have hs1 : (xtsl H1 : Int) ≤ xtsl H + n := by omega
  have hH1 := hH.push (t := t) (n := n) (c := fun _ => 0) d2 d3 hs1 hn hs ⟨fun q => by omega, fun _ _ => ⟨h0, by omega, by rw [d1]; congr 2; funext j; exact hdf G, fun j _ => hd0⟩⟩
  have k2 := k9 p e R s m args below meth c H1 locs ls F hH1 hL (xac (show True from trivial) (xal1 hS).2) y1 y3 hlo
  simp only [List.map_cons, xnew_adr hH] at k2
  exact k2
theorem xr_anewarray {G : XG} {M : XM} {d pc : Nat} {L S : List XV} {h : XH} {Q : XV → XH → Prop} {X : Nat → XH → Prop} {n : Int} {index : Nat} (hI : decode M.2.1 pc = .ok (.anewarray index, 3)) (hw : Cond.classLink M.1.cls index "java/lang/Object" ∈ lw_tbl) (hw2 : Cond.arrayOver (.object "java/lang/Object") ∈ lw_tbl) (h0 : 0 ≤ n) (hnb : n ≤ 60000000) (hn : xnx h + 1 ≤ xKC) (hs : xsl h + n ≤ xKS)
    (k9 : xwp G M d (pc + 3) L (xR (xnx h) :: S) (xmk h 110 n (fun _ => -1)) Q X) : xwp G M d pc L (xI n :: S) h Q X := by
  intro p e R s m args below meth c H locs ls F hH hL hS hz hy hlo
  have hnr : xiR n := ⟨by omega, by omega⟩
  obtain ⟨hC1, hC2⟩ := xn_room F hH hz hy (n := n.toNat) hn (by omega)
  have hneg : ¬ Int32.ofInt n < 0 := fun q => by
    have q2 : Int32.ofInt n < Int32.ofInt 0 := q
    rw [xi_lt hnr xi_z] at q2
    omega
  obtain ⟨-, ⟨A0, hb⟩, -⟩ := F.base
  have hAO : va_AO "java/lang/Object" (gs G) := va_AO.of (hb _ hw2)
  refine W.anew F.1 F.2.1 F.2.2.2.2.2.1 (F.word hw rfl) (va_AO.use (hAO.moved F.2.2.2.2.2.2.1.alike)) rfl hI rfl hneg (by rw [xi_clamp hnr]; omega) hC1 (by rw [xi_clamp hnr]; exact hC2) fun cA kA comp f1 f2 f3 f4 => ?_
  have eA : cA = gA G 110 := Option.some.inj (f1.symm.trans (F.arr (t := 110) rfl).2.2)
  subst eA
  rw [xi_clamp hnr]
  generalize hH1e : H.push _ = H1
  have d1 : H1[H.size]? = some (arrV (gA G 110) n.toNat (fun _ => .null)) := by rw [← hH1e, ← arrV_new]; simp
  have d2 : H1.size = H.size + 1 := by rw [← hH1e]; simp
  have d3 : ∀ q : Nat, q < H.size → H1[q]? = H[q]? := fun q hq => by rw [← hH1e, Array.getElem?_push, if_neg (Nat.ne_of_lt hq)]
  refine x_know fun y1 y2 y3 y4 => x_tight ?_
  have hs1 : (xtsl H1 : Int) ≤ xtsl H + n := by omega
  have hH1 := hH.push (t := 110) (n := n) (c := fun _ => -1) d2 d3 hs1 hn hs ⟨fun q => by omega, fun _ _ => ⟨h0, by omega, by rw [d1]; rfl, fun j _ => by show xok (xaty 110, (-1 : Int)); rw [show xaty 110 = 2 from rfl]; exact trivial⟩⟩
  have k2 := k9 p e R s m args below meth c H1 locs ls F hH1 hL (xac (show True from trivial) (xal1 hS).2) y1 y3 hlo
  simp only [List.map_cons, xnew_adr hH] at k2
  exact k2
/-- a cast to the object's own class -/
theorem xr_cast {G : XG} {M : XM} {d pc : Nat} {L S : List XV} {h : XH} {Q : XV → XH → Prop} {X : Nat → XH → Prop} {a : Int} {ci index N : Nat} {C : String} {T : u_T} (hI : decode M.2.1 pc = .ok (.checkcast index, 3)) (hw : Cond.classLink M.1.cls index C ∈ lw_tbl) (hc : xCL[ci]? = some (C, T, N)) (hci : ci < 100) (ht : xtg h a = ci) (k9 : xwp G M d (pc + 3) L (xR a :: S) h Q X) : xwp G M d pc L (xR a :: S) h Q X := by
  intro p e R s m args below meth c H locs ls F hH hL hS hz hy hlo
  obtain ⟨q, e1, ⟨cell, g1, g2, g3, g4⟩, e3⟩ := xcellw hH (F.2.2.2.2.2.2.2.2.2.2.2.2.2.2.2) ht hc hci
  have hkn := F.known hc
  have k2 := k9 p e R s m args below meth c H locs ls F hH hL hS hz hy hlo
  change W p (gl G) e R s m args below meth c H locs _ _ _ (F0 m (pc + 3) ls (xadr G a :: S.map (xcv G))) at k2
  show W p (gl G) e R s m args below meth c H locs _ _ _ (F0 m pc ls (xadr G a :: S.map (xcv G)))
  rw [e1] at k2 ⊢
  exact va_castS F.1 F.2.1 F.2.2.2.2.2.1 (F.word hw rfl) hkn.2 ⟨cell, g1, g3.2, by rw [g2]; exact hkn.2.1⟩ hI k2
theorem xr_castA {G : XG} {M : XM} {d pc : Nat} {L S : List XV} {h : XH} {Q : XV → XH → Prop} {X : Nat → XH → Prop} {a : Int} {t index : Nat} {nm : String} (hI : decode M.2.1 pc = .ok (.checkcast index, 3)) (hw : Cond.classLink M.1.cls index nm ∈ lw_tbl) (hnm : "[" ++ (xaft t).toString = nm) (h1 : 100 ≤ t) (h2 : t < 106) (h3 : xaok t = true) (ht : xtg h a = t) (k9 : xwp G M d (pc + 3) L (xR a :: S) h Q X) : xwp G M d pc L (xR a :: S) h Q X := by
  intro p e R s m args below meth c H locs ls F hH hL hS hz hy hlo
  obtain ⟨q, cell, e1, e2, e3, e4, k1, kcl, k3, ks, e5⟩ := xarrw hH (F.2.2.2.2.2.2.2.2.2.2.2.2.2.2.2) ht h1 (by omega)
  have k2 := k9 p e R s m args below meth c H locs ls F hH hL hS hz hy hlo
  change W p (gl G) e R s m args below meth c H locs _ _ _ (F0 m (pc + 3) ls (xadr G a :: S.map (xcv G))) at k2
  show W p (gl G) e R s m args below meth c H locs _ _ _ (F0 m pc ls (xadr G a :: S.map (xcv G)))
  rw [e1] at k2 ⊢
  have hfc := (F.arr h3).2.2
  rw [hnm] at hfc
  intro T hT X9
  obtain ⟨vm', X', st⟩ := X9.checkcastYes F.1 F.2.2.2.2.2.1 (F.word hw rfl) (by rw [hT]; exact e4) k3.2 hfc (by rw [kcl (by omega)]; exact va_asg _ _) (g := F0 m pc ls (.ref q :: S.map (xcv G))) rfl rfl (by rw [F.2.1]; exact hI)
  obtain ⟨t2, a1, b1⟩ := k2 (T.setVm vm') hT X'
  exact ⟨t2, st t2 a1, b1⟩
/-- static fields -/
theorem xr_getstatic {G : XG} {M : XM} {d pc : Nat} {L S : List XV} {h : XH} {Q : XV → XH → Prop} {X : Nat → XH → Prop} {index : Nat} {C n ds : String} {v : XV} (hI : decode M.2.1 pc = .ok (.getstatic index, 3)) (hw : Cond.fieldLink M.1.cls index C n ds ∈ lw_tbl) (hm : (C, n, ds, v) ∈ xST) (hv : xok v) (k9 : xwp G M d (pc + 3) L (v :: S) h Q X) : xwp G M d pc L S h Q X := by
  intro p e R s m args below meth c H locs ls F hH hL hS hz hy hlo
  obtain ⟨-, -, -, -, hst, -⟩ := F.base
  have hZ : va_Z C n ds (xcv G v) (fun a => gB G ≤ a) s s.heap := va_Z.moved F.2.2.2.2.2.2.1.alike ((hst _ hm).kept F.keep)
  exact va_gets F.1 F.2.1 hZ (F.vaS hH hz hlo) F.2.2.2.2.2.1 (F.word hw rfl) (fun _ q => q) hI (k9 p e R s m args below meth c H locs ls F hH hL (xac hv hS) hz hy hlo)
theorem xr_getformat {G : XG} {M : XM} {d pc : Nat} {L S : List XV} {h : XH} {Q : XV → XH → Prop} {X : Nat → XH → Prop} {index : Nat} (hI : decode M.2.1 pc = .ok (.getstatic index, 3)) (hw : Cond.fieldLink M.1.cls index "jdk/internal/util/Preconditions" "SIOOBE_FORMATTER" "Ljava/util/function/BiFunction;" ∈ lw_tbl) (k9 : ∀ r : Int, xwp G M d (pc + 3) L (xR r :: S) h Q X) : xwp G M d pc L S h Q X := by
  intro p e R s m args below meth c H locs ls F hH hL hS hz hy hlo
  obtain ⟨-, -, -, -, -, -, hst, -⟩ := F.base
  have hS9 := F.vaS hH hz hlo
  rcases hst with hst | hst
  · obtain ⟨r, hr⟩ : ∃ r : Int, xadr G r = .null := ⟨-1, rfl⟩
    have hZ := va_Z.moved F.2.2.2.2.2.2.1.alike (hst.kept F.keep)
    have k2 := k9 r p e R s m args below meth c H locs ls F hH hL (xac (show True from trivial) hS) hz hy hlo
    change W p (gl G) e R s m args below meth c H locs _ _ _ (F0 m (pc + 3) ls (xadr G r :: S.map (xcv G))) at k2
    rw [hr] at k2
    exact va_gets F.1 F.2.1 hZ hS9 F.2.2.2.2.2.1 (F.word hw rfl) (fun _ q => q) hI k2
  · obtain ⟨r, hr⟩ : ∃ r : Int, xadr G r = .ref (gd G 105) := ⟨-107, rfl⟩
    have hZ := va_Z.moved F.2.2.2.2.2.2.1.alike (hst.kept F.keep)
    have k2 := k9 r p e R s m args below meth c H locs ls F hH hL (xac (show True from trivial) hS) hz hy hlo
    change W p (gl G) e R s m args below meth c H locs _ _ _ (F0 m (pc + 3) ls (xadr G r :: S.map (xcv G))) at k2
    rw [hr] at k2
    exact va_gets F.1 F.2.1 hZ hS9 F.2.2.2.2.2.1 (F.word hw rfl) (fun _ q => q) hI k2
theorem xr_ldcS {G : XG} {M : XM} {d pc : Nat} {L S : List XV} {h : XH} {Q : XV → XH → Prop} {X : Nat → XH → Prop} {index k0 : Nat} {tx : String} {z : Int} (hI : decode M.2.1 pc = .ok (.ldc index, 2)) (hm : (M.1.cls, index, tx, k0) ∈ xSR) (hz0 : z = -2 - (k0 : Int)) (k9 : xwp G M d (pc + 2) L (xR z :: S) h Q X) : xwp G M d pc L S h Q X := by
  intro p e R s m args below meth c H locs ls F hH hL hS hz hy hlo
  obtain ⟨-, -, -, -, -, hst, -⟩ := F.base
  have hZ := vk_R.warm F.2.2.2.2.2.2.1 (hst _ hm)
  have k2 := k9 p e R s m args below meth c H locs ls F hH hL (xac (show True from trivial) hS) hz hy hlo
  change W p (gl G) e R s m args below meth c H locs _ _ _ (F0 m (pc + 2) ls (xadr G z :: S.map (xcv G))) at k2
  have e9 : xadr G z = .ref (gd G k0) := by
    subst hz0
    unfold xadr
    rw [if_neg (by omega), if_neg (by omega)]
    congr 2
    omega
  rw [e9] at k2
  exact va_ldcS F.1 F.2.1 F.2.2.2.2.2.1 hZ hI k2
/-- two references compared -/
theorem xadr_ne {G : XG} {h : XH} {H : Heap} (hH : xHR G h H) {a b : Int} (hne : ¬ a = b) (h1 : -1 ≤ a ∨ -1 ≤ b) (h2 : -1 ≤ a ∨ xtg h a < 200) (h3 : -1 ≤ b ∨ xtg h b < 200) : ∃ ra rb : Option Nat, xadr G a = va_rf ra ∧ xadr G b = va_rf rb ∧ ra ≠ rb := by
  have key : ∀ x : Int, (-1 ≤ x ∨ xtg h x < 200) → (x = -1 ∧ xadr G x = .null) ∨ (0 ≤ x ∧ xadr G x = .ref (gB G + x.toNat)) ∨ (x < -1 ∧ ∃ q : Nat, q < gB G ∧ xadr G x = .ref q) := by
    intro x hx
    by_cases h0 : 0 ≤ x
    · exact Or.inr (Or.inl ⟨h0, hH.adr h0⟩)
    · by_cases hn : x = -1
      · exact Or.inl ⟨hn, by rw [hn]; rfl⟩
      · refine Or.inr (Or.inr ⟨by omega, gd G (-2 - x).toNat, ?_, by unfold xadr; rw [if_neg h0, if_neg hn]⟩)
        have e : x = -2 - ((-2 - x).toNat : Int) := by omega
        have ht : xtg h x < 200 := by rcases hx with q | q; omega; exact q
        rw [e] at ht
        exact (hH.2.2.2.2.2.2.2.2.2 _ ht).1
  rcases key a h2 with ⟨e1, e2⟩ | ⟨e1, e2⟩ | ⟨e1, q1, l1, e2⟩ <;> rcases key b h3 with ⟨f1, f2⟩ | ⟨f1, f2⟩ | ⟨f1, q2, l2, f2⟩
  · omega
  · exact ⟨none, some _, e2, f2, by simp⟩
  · exact ⟨none, some _, e2, f2, by simp⟩
  · exact ⟨some _, none, e2, f2, by simp⟩
  · refine ⟨some _, some _, e2, f2, fun q => ?_⟩
    have q9 : gB G + a.toNat = gB G + b.toNat := Option.some.inj q
    omega
  · refine ⟨some _, some _, e2, f2, fun q => ?_⟩
    have q9 : gB G + a.toNat = q2 := Option.some.inj q
    omega
  · exact ⟨some _, none, e2, f2, by simp⟩
  · refine ⟨some _, some _, e2, f2, fun q => ?_⟩
    have q9 : q1 = gB G + b.toNat := Option.some.inj q
    omega
  · omega
theorem xadr_rf (G : XG) (a : Int) : ∃ r : Option Nat, xadr G a = va_rf r := by
  rcases xadr_cases G a with ⟨q, -, e⟩ | ⟨-, e⟩
  · exact ⟨some q, e⟩
  · exact ⟨none, e⟩
theorem xr_acmp_eq {G : XG} {M : XM} {d pc : Nat} {L S : List XV} {h : XH} {Q : XV → XH → Prop} {X : Nat → XH → Prop} {a b : Int} {off : Int} {tgt : Nat} (hI : decode M.2.1 pc = .ok (.if_acmp .eq off, 3)) (ht : (pc : Int) + off = (tgt : Int)) (h1 : a = b ∨ ((-1 ≤ a ∨ -1 ≤ b) ∧ (-1 ≤ a ∨ xtg h a < 200) ∧ (-1 ≤ b ∨ xtg h b < 200))) (kt : a = b → xwp G M d tgt L S h Q X) (kf : ¬ a = b → xwp G M d (pc + 3) L S h Q X) : xwp G M d pc L (xR b :: xR a :: S) h Q X := by
  intro p e R s m args below meth c H locs ls F hH hL hS hz hy hlo
  have hS2 := (xal1 (xal1 hS).2).2
  show W p (gl G) e R s m args below meth c H locs _ _ _ (F0 m pc ls (xadr G b :: xadr G a :: S.map (xcv G)))
  by_cases q : a = b
  · obtain ⟨r, hr⟩ := xadr_rf G b
    rw [q, hr]
    exact lv_acmp_eq F.1 F.2.1 hI ht (fun z => kt q p e R s m args below meth c H locs ls F hH hL hS2 hz hy hlo) (fun z => absurd rfl z)
  · rcases h1 with h1 | ⟨g1, g2, g3⟩
    · exact absurd h1 q
    · obtain ⟨ra, rb, f1, f2, f3⟩ := xadr_ne hH q g1 g2 g3
      rw [f1, f2]
      exact lv_acmp_eq F.1 F.2.1 hI ht (fun z => absurd z f3) (fun z => kf q p e R s m args below meth c H locs ls F hH hL hS2 hz hy hlo)
theorem xr_acmp_ne {G : XG} {M : XM} {d pc : Nat} {L S : List XV} {h : XH} {Q : XV → XH → Prop} {X : Nat → XH → Prop} {a b : Int} {off : Int} {tgt : Nat} (hI : decode M.2.1 pc = .ok (.if_acmp .ne off, 3)) (ht : (pc : Int) + off = (tgt : Int)) (h1 : a = b ∨ ((-1 ≤ a ∨ -1 ≤ b) ∧ (-1 ≤ a ∨ xtg h a < 200) ∧ (-1 ≤ b ∨ xtg h b < 200))) (kt : ¬ a = b → xwp G M d tgt L S h Q X) (kf : a = b → xwp G M d (pc + 3) L S h Q X) : xwp G M d pc L (xR b :: xR a :: S) h Q X := by
  intro p e R s m args below meth c H locs ls F hH hL hS hz hy hlo
  have hS2 := (xal1 (xal1 hS).2).2
  show W p (gl G) e R s m args below meth c H locs _ _ _ (F0 m pc ls (xadr G b :: xadr G a :: S.map (xcv G)))
  by_cases q : a = b
  · obtain ⟨r, hr⟩ := xadr_rf G b
    rw [q, hr]
    exact lv_acmp_ne F.1 F.2.1 hI ht (fun z => absurd rfl z) (fun z => kf q p e R s m args below meth c H locs ls F hH hL hS2 hz hy hlo)
  · rcases h1 with h1 | ⟨g1, g2, g3⟩
    · exact absurd h1 q
    · obtain ⟨ra, rb, f1, f2, f3⟩ := xadr_ne hH q g1 g2 g3
      rw [f1, f2]
      exact lv_acmp_ne F.1 F.2.1 hI ht (fun z => kt q p e R s m args below meth c H locs ls F hH hL hS2 hz hy hlo) (fun z => absurd z f3)
/-! switches -/
theorem xr_tsw_out {G : XG} {M : XM} {d pc : Nat} {L S : List XV} {h : XH} {Q : XV → XH → Prop} {X : Nat → XH → Prop} {a : Int} {dflt lo hi : Int} {offs : Array Int} {len tgt : Nat} (hI : decode M.2.1 pc = .ok (.tableswitch dflt lo hi offs, len)) (h1 : a < lo ∨ hi < a) (ht : (pc : Int) + dflt = (tgt : Int)) (k9 : xwp G M d tgt L S h Q X) : xwp G M d pc L (xI a :: S) h Q X := by
  intro p e R s m args below meth c H locs ls F hH hL hS hz hy hlo
  have ha : xiR a := (xal1 hS).1
  exact lv_tableOut F.1 F.2.1 hI (by rw [xi_to ha]; exact h1) ht (k9 p e R s m args below meth c H locs ls F hH hL (xal1 hS).2 hz hy hlo)
theorem xr_tsw_in {G : XG} {M : XM} {d pc : Nat} {L S : List XV} {h : XH} {Q : XV → XH → Prop} {X : Nat → XH → Prop} {a : Int} {dflt lo hi off : Int} {offs : Array Int} {len tgt : Nat} (i : Nat) (hI : decode M.2.1 pc = .ok (.tableswitch dflt lo hi offs, len)) (h1 : a = lo + i) (h2 : a ≤ hi) (ho : offs[i]? = some off) (ht : (pc : Int) + off = (tgt : Int)) (k9 : xwp G M d tgt L S h Q X) : xwp G M d pc L (xI a :: S) h Q X := by
  intro p e R s m args below meth c H locs ls F hH hL hS hz hy hlo
  have ha : xiR a := (xal1 hS).1
  exact lv_tableIn F.1 F.2.1 hI (by rw [xi_to ha]; omega) (by rw [xi_to ha]; omega) (by rw [xi_to ha]; rw [show (a - lo).toNat = i by omega]; exact ho) ht (k9 p e R s m args below meth c H locs ls F hH hL (xal1 hS).2 hz hy hlo)
theorem xr_lsw {G : XG} {M : XM} {d pc : Nat} {L S : List XV} {h : XH} {Q : XV → XH → Prop} {X : Nat → XH → Prop} {a : Int} {dflt off : Int} {ps : Array (Int × Int)} {len tgt : Nat} (hI : decode M.2.1 pc = .ok (.lookupswitch dflt ps, len)) (hp : (ps.toList.zip (ps.toList.drop 1)).all (fun (a, next) => a.1 < next.1) = true) (ho : Op.lookupswitch.offset ps.toList dflt a = off) (ht : (pc : Int) + off = (tgt : Int)) (k9 : xwp G M d tgt L S h Q X) : xwp G M d pc L (xI a :: S) h Q X := by
  intro p e R s m args below meth c H locs ls F hH hL hS hz hy hlo
  have ha : xiR a := (xal1 hS).1
  exact lv_lookup F.1 F.2.1 hI hp (by rw [xi_to ha]; exact ho) ht (k9 p e R s m args below meth c H locs ls F hH hL (xal1 hS).2 hz hy hlo)
/-! other ends -/
theorem xr_ireturnT {G : XG} {M : XM} {d pc : Nat} {L S : List XV} {h : XH} {Q : XV → XH → Prop} {X : Nat → XH → Prop} {a : Int} {ty : FieldType} (hI : decode M.2.1 pc = .ok (.ireturn, 1)) (hr : M.2.2.2.1 = some ty) (hn : narrow ty (.int (Int32.ofInt a)) = .int (Int32.ofInt a)) (k : Q (xI a) h) : xwp G M d pc L [xI a] h Q X := by
  intro p e R s m args below meth c H locs ls F hH hL hS hz hy hlo
  refine vx_ret (W.widen (k := R.cells) (n := R.slots) ?_ ?_ ?_)
  · have := F.2.2.2.2.2.2.2.2.2.1; have := hH.1; have := hH.2.2.1; omega
  · have := F.2.2.2.2.2.2.2.2.2.2.1; have := hH.2.2.2.1; have := hH.2.2.2.2.1; omega
  · exact W.zret F.1 F.2.1 (F.2.2.2.1.trans hr) hn (fun t ht _ => ⟨xI a, h, rfl, Or.inr ⟨Nat.le_of_ble_eq_true rfl, (xal1 hS).1⟩, by rw [ht]; exact hH, k⟩) hlo hI F.2.2.2.2.1
theorem xr_areturn {G : XG} {M : XM} {d pc : Nat} {L S : List XV} {h : XH} {Q : XV → XH → Prop} {X : Nat → XH → Prop} {a : Int} {ty : FieldType} (hI : decode M.2.1 pc = .ok (.areturn, 1)) (hr : M.2.2.2.1 = some ty) (hrt : (∃ n, ty = .object n) ∨ ∃ t, ty = .array t) (k : Q (xR a) h) : xwp G M d pc L [xR a] h Q X := by
  intro p e R s m args below meth c H locs ls F hH hL hS hz hy hlo
  refine vx_ret (W.widen (k := R.cells) (n := R.slots) ?_ ?_ ?_)
  · have := F.2.2.2.2.2.2.2.2.2.1; have := hH.1; have := hH.2.2.1; omega
  · have := F.2.2.2.2.2.2.2.2.2.2.1; have := hH.2.2.2.1; have := hH.2.2.2.2.1; omega
  · exact W.aret (v := xadr G a) F.1 F.2.1 (F.2.2.2.1.trans hr) hrt (by rcases xadr_cases G a with ⟨q, -, e9⟩ | ⟨-, e9⟩; exact Or.inr ⟨q, e9⟩; exact Or.inl e9) (fun t ht _ => ⟨xR a, h, rfl, Or.inr ⟨Nat.le_of_ble_eq_true rfl, (xal1 hS).1⟩, by rw [ht]; exact hH, k⟩) hlo hI F.2.2.2.2.1
theorem xnar_z {a : Int} (h : 0 ≤ a ∧ a ≤ 1) : narrow .boolean (.int (Int32.ofInt a)) = .int (Int32.ofInt a) := by
  rcases (show a = 0 ∨ a = 1 by omega) with e | e <;> subst e <;> rfl
/-- an array of objects is written to -/
theorem xr_aastore {G : XG} {M : XM} {d pc : Nat} {L S : List XV} {h : XH} {Q : XV → XH → Prop} {X : Nat → XH → Prop} {a i v : Int} {ci N : Nat} {C : String} {T : u_T} (hI : decode M.2.1 pc = .ok (.aastore, 1)) (hca : Cond.castable C "java/lang/Object" ∈ lw_tbl) (hc : xCL[ci]? = some (C, T, N)) (hci : ci < 100) (htv : xtg h v = ci) (ht : xtg h a = 110) (ha : 0 ≤ a) (h0 : 0 ≤ i) (hi : i < xln h a) (k9 : xwp G M d (pc + 1) L S (xst h a i v) Q X) : xwp G M d pc L (xR v :: xI i :: xR a :: S) h Q X := by
  intro p e R s m args below meth c H locs ls F hH hL hS hz hy hlo
  obtain ⟨q, e1, e2, e3, e4, e5⟩ := xarr hH ha ht (by decide) (by decide)
  have hir : xiR i := ⟨by omega, by omega⟩
  have hin := xi_in h0 hi e3
  rw [hH.adr ha] at e1
  cases e1
  obtain ⟨qv, ev, ⟨cellV, g1, g2, g3, g4⟩, -⟩ := xcellw hH (F.2.2.2.2.2.2.2.2.2.2.2.2.2.2.2) htv hc hci
  have hkn := F.known hc
  obtain ⟨-, hfcC, kC, hkC, hkind⟩ := hkn
  obtain ⟨hA1, hA2, hA3⟩ := F.arr (t := 110) rfl
  obtain ⟨kA, comp, k1, k2, k3, -⟩ := hA2
  obtain ⟨kE, hkE, -⟩ := Vm.findClass_spec k3
  have hcast := va_Nw.warmC F.2.2.2.2.2.2.1 (F.off hca rfl)
  obtain ⟨c0, t1, f1, f2, f3⟩ := Cond.castable_spec (va_Nw.use (A := args) rfl hcast)
  cases hfcC.symm.trans f1
  cases k3.symm.trans f2
  rw [show F0 m pc ls (List.map (xcv G) (xR v :: xI i :: xR a :: S)) = F0 m pc ls (.ref qv :: .int (Int32.ofInt i) :: .ref (gB G + a.toNat) :: S.map (xcv G)) from by simp only [List.map_cons]; rw [show xcv G (xR a) = xadr G a from rfl, show xcv G (xR v) = xadr G v from rfl, hH.adr ha, ev]; rfl]
  refine W.aast F.1 F.2.1 e4 (fun z hh => by cases hh) (fun hh => by cases hh) k1 k2 rfl hkE ⟨fun z => hin (Or.inl z), by rw [arrV_size]; exact Nat.not_le.mp (fun z => hin (Or.inr z))⟩ g1 (fun z hh => by have := g3.2; rw [hh] at this; cases this) (by rw [g2]; exact hkC) (by rw [g2]; exact f3) rfl rfl hI fun H1 d1 d2 d3 => ?_
  rw [xi_clamp hir] at d1
  refine x_know fun y1 y2 y3 y4 => x_tight ?_
  have hs1 : xtsl H1 ≤ xtsl H := by omega
  exact k9 p e R s m args below meth c H1 _ ls F (x_ast (v := v) hH ha ht (by decide) (by decide) h0 hi e2 e3 e5 trivial (by rw [d1]; congr 2; exact ev.symm) d2 d3 hs1) hL (xal1 (xal1 (xal1 hS).2).2).2 y1 y3 (fun z hz2 => by
    rcases List.mem_append.mp hz2 with z1 | z1
    · exact hlo z z1
    · rw [List.mem_singleton.mp z1]; exact Nat.le_add_right _ _)
theorem xr_aastoreN {G : XG} {M : XM} {d pc : Nat} {L S : List XV} {h : XH} {Q : XV → XH → Prop} {X : Nat → XH → Prop} {a i : Int} (hI : decode M.2.1 pc = .ok (.aastore, 1)) (ht : xtg h a = 110) (ha : 0 ≤ a) (h0 : 0 ≤ i) (hi : i < xln h a) (k9 : xwp G M d (pc + 1) L S (xst h a i (-1)) Q X) : xwp G M d pc L (xR (-1) :: xI i :: xR a :: S) h Q X := by
  intro p e R s m args below meth c H locs ls F hH hL hS hz hy hlo
  obtain ⟨q, e1, e2, e3, e4, e5⟩ := xarr hH ha ht (by decide) (by decide)
  have hir : xiR i := ⟨by omega, by omega⟩
  have hin := xi_in h0 hi e3
  rw [hH.adr ha] at e1
  cases e1
  rw [show F0 m pc ls (List.map (xcv G) (xR (-1) :: xI i :: xR a :: S)) = F0 m pc ls (.null :: .int (Int32.ofInt i) :: .ref (gB G + a.toNat) :: S.map (xcv G)) from by simp only [List.map_cons]; rw [show xcv G (xR a) = xadr G a from rfl, hH.adr ha]; rfl]
  refine va_WaastN (C := "java/lang/Object") F.1 F.2.1 e4 ((F.arr (t := 110) rfl).1 _ _) (fun hh => by cases hh) (by rw [arrV_size]; exact hin) rfl rfl hI fun H1 d1 d2 d3 => ?_
  rw [xi_clamp hir] at d1
  refine x_know fun y1 y2 y3 y4 => x_tight ?_
  have hs1 : xtsl H1 ≤ xtsl H := by omega
  exact k9 p e R s m args below meth c H1 _ ls F (x_ast (v := -1) hH ha ht (by decide) (by decide) h0 hi e2 e3 e5 trivial d1 d2 d3 hs1) hL (xal1 (xal1 (xal1 hS).2).2).2 y1 y3 (fun z hz2 => by
    rcases List.mem_append.mp hz2 with z1 | z1
    · exact hlo z z1
    · rw [List.mem_singleton.mp z1]; exact Nat.le_add_right _ _)
end XS
