/-! ===== the rows of the judgement: calls ===== -/
section XK
def xent : List XV → List XV
  | [] => []
  | v :: l => if xcat2 v then v :: xZ :: xent l else v :: xent l
def xcsum : List XV → Nat
  | [] => 0
  | v :: l => (if xcat2 v then 2 else 1) + xcsum l
def xpush (v : XV) (S : List XV) : List XV := match v.1 with
  | 8 => S
  | _ => v :: S
theorem xok7 {v : XV} (h : xok v) : v.1 < 7 := by
  obtain ⟨t, x⟩ := v
  rcases Nat.lt_or_ge t 7 with q | q
  · exact q
  · exfalso
    obtain ⟨k, rfl⟩ : ∃ k, t = k + 7 := ⟨t - 7, by omega⟩
    exact h
theorem xcsum_eq (G : XG) : ∀ S : List XV, ((S.map (xcv G)).map fun v => v.category).sum = xcsum S
  | [] => rfl
  | v :: l => by
    simp only [List.map_cons, List.sum_cons, xcsum, xcsum_eq G l]
    cases h : xcat2 v
    · rw [xcat_ne G h]; simp
    · rw [xcat_eq G h]; simp
theorem xent_len (G : XG) : ∀ S : List XV, (lg_sl (S.map (xcv G))).length = (xent S).length
  | [] => rfl
  | v :: l => by
    have ih := xent_len G l
    simp only [List.map_cons, xent]
    unfold lg_sl at ih ⊢
    rw [List.flatMap_cons, List.length_append, ih]
    cases h : xcat2 v
    · rw [xcat_ne G h]; simp [Nat.add_comm]
    · rw [xcat_eq G h]; simp; omega
theorem xlvl_Z (G : XG) : ∀ (n k : Nat), xlvl G k (List.replicate n xZ) = []
  | 0, _ => rfl
  | n + 1, k => by
    rw [List.replicate_succ]
    show (if (9 : Nat) < 7 then _ else xlvl G (k + 1) (List.replicate n xZ)) = []
    rw [if_neg (by decide)]
    exact xlvl_Z G n (k + 1)
theorem xent_mem (G : XG) (n : Nat) : ∀ (S : List XV) (k : Nat), (∀ v ∈ S, xok v) → ∀ q, q ∈ xlvl G k (xent S ++ List.replicate n xZ) → q ∈ lv_args k (S.map (xcv G))
  | [], k, _, q, h => by
    simp only [xent, List.nil_append, xlvl_Z] at h
    exact absurd h List.not_mem_nil
  | v :: l, k, hok, q, h => by
    have h7 := xok7 (hok v List.mem_cons_self)
    have hl : ∀ w ∈ l, xok w := fun w hw => hok w (List.mem_cons_of_mem _ hw)
    simp only [List.map_cons, lv_args]
    simp only [xent] at h
    cases hc : xcat2 v
    · rw [hc] at h
      simp only [Bool.false_eq_true, if_false, List.cons_append, xlvl, if_pos h7] at h
      rw [if_neg (by rw [xcat_ne G hc]; decide)]
      rcases List.mem_cons.mp h with h | h
      · rw [h]; exact List.mem_cons_self
      · exact List.mem_cons_of_mem _ (xent_mem G n l (k + 1) hl q h)
    · rw [hc] at h
      simp only [if_true, List.cons_append, xlvl, if_pos h7] at h
      rw [if_neg (by decide : ¬ (9 : Nat) < 7)] at h
      rw [if_pos (xcat_eq G hc)]
      rcases List.mem_cons.mp h with h | h
      · rw [h]; exact List.mem_cons_self
      · exact List.mem_cons_of_mem _ (xent_mem G n l (k + 2) hl q h)
/-- the places at a method's entry -/
def xpad (n : Nat) (S : List XV) : List XV := xent S ++ List.replicate (n - (xent S).length) xZ
def xmc (G : XG) (H : Heap) : Nat := ((gB G : Int) + xKC - H.size).toNat
def xms (G : XG) (H : Heap) : Nat := ((xtsl (gs G).heap : Int) + xKS - xtsl H).toNat
def xPc (G : XG) (S : List XV) (H : Heap) : Array Value → State → Prop := fun a U => a = (S.map (xcv G)).toArray ∧ U.heap = H ∧ (gs G).WarmedH U.vm
abbrev xrm (G : XG) (H : Heap) (d : Nat) : Room := { frames := d, cells := xmc G H, slots := xms G H, locals := 64 * d }
theorem xPc_blind (G : XG) (S : List XV) (H : Heap) : FrameBlind (xPc G S H) := fun _ _ _ _ h => h
theorem xLR_entry {G : XG} {S : List XV} {n : Nat} (hok : ∀ v ∈ S, xok v) (hlen : (xent S).length ≤ n) : xLR G n (xpad n S) ((lg_sl (S.map (xcv G)) ++ List.replicate (n - (lg_sl (S.map (xcv G))).length) Slot.unset).toArray) := by
  have hl := lv_entry (S.map (xcv G)) (n := n) (by rw [xent_len]; exact hlen)
  refine ⟨⟨hl.1, hl.2.1, fun q hq => hl.2.2 q (xent_mem G _ S 0 hok q hq)⟩, ?_⟩
  intro v hv h7
  have key : ∀ (T : List XV), (∀ w ∈ T, xok w) → v ∈ xent T → xok v := by
    intro T
    induction T with
    | nil => intro _ h; exact absurd h List.not_mem_nil
    | cons w l ih =>
      intro hT h
      have hl2 : ∀ u ∈ l, xok u := fun u hu => hT u (List.mem_cons_of_mem _ hu)
      simp only [xent] at h
      split at h
      · rcases List.mem_cons.mp h with h | h
        · rw [h]; exact hT w List.mem_cons_self
        · rcases List.mem_cons.mp h with h | h
          · rw [h] at h7; exact absurd h7 (by decide)
          · exact ih hl2 h
      · rcases List.mem_cons.mp h with h | h
        · rw [h]; exact hT w List.mem_cons_self
        · exact ih hl2 h
  rcases List.mem_append.mp hv with h | h
  · exact key S hok h
  · have := (List.mem_replicate.mp h).2
    rw [this] at h7
    exact absurd h7 (by decide)
theorem x_fxE {G : XG} {K : XM} {d : Nat} {p : Program} {e : Env} {s : State} {m : MethodId} {args : Array Value} {below : List Frame} {meth : Method} {c : Code} {s₁ : State} {ws : List Cond} {H : Heap} {h : XH} (hB : xBase G) (hH : xHR G h H)
    (B : BodyLoose p (gl G) K.1 (headSpec ws (xrm G H d)) K.2.1 K.2.2.1 K.2.2.2.1 e s m args below meth c s₁) (hml : c.maxLocals = K.2.2.1) (htab : c.exceptionTable.toList = tableOf K.2.2.2.2) (hh : s.heap = H) (hW : (gs G).WarmedH s.vm) : xFx G K d p e (xrm G H d) s m args meth c := by
  obtain ⟨h1, h2, h3, h4, h5, h6, -⟩ := hH
  refine ⟨B.exec, B.bytes, hml, B.returns, B.notSynchronized, findClass_of_methodNamed B.named, hW, Nat.le_refl _, Nat.le_refl _, ?_, ?_, ?_, fun q hq => by rw [hh]; exact h6 q hq, htab, (name_of_methodNamed B.named B.method).1, hB⟩
  · show (gB G : Int) + xKC ≤ s.heap.size + (xmc G H : Nat)
    rw [hh]; unfold xmc; omega
  · show (xtsl (gs G).heap : Int) + xKS ≤ xtsl s.heap + (xms G H : Nat)
    rw [hh]; unfold xms; omega
  · rw [hh]; omega
/-- a callee's contract out of its judgement -/
theorem x_met {G : XG} {K : XM} {d : Nat} {S L0 : List XV} {h : XH} {H : Heap} {Q : XV → XH → Prop} {X : Nat → XH → Prop} (hB : xBase G) (hH : xHR G h H) (hok : ∀ v ∈ S, xok v) (hlen : (xent S).length ≤ K.2.2.1) (hpl : plainName K.1.cls = true) (hno : K.2.2.2.2 = []) (hL0 : xpad K.2.2.1 S = L0)
    (w : xwp G K d 0 L0 [] h Q X) : vx_Met (gl G) K.1 [.code K.1 K.2.1 K.2.2.1 K.2.2.2.1] (xrm G H d) (xPc G S H) (xQc G Q) (xXc G X) (xmc G H) (xms G H) (fun q => gB G ≤ q) := by
  subst hL0
  refine vx_ofW (cc := K.2.1) (maxL := K.2.2.1) (ret := K.2.2.2.1) hpl rfl ?_
  intro p e s m args below meth c s₁ B hml hno2 hP
  obtain ⟨rfl, hh, hW⟩ := hP
  have htab : c.exceptionTable.toList = tableOf K.2.2.2.2 := by
    rw [hno]
    cases hq : c.exceptionTable.toList with
    | nil => rfl
    | cons a l => exact (hno2 a (by rw [hq]; exact List.mem_cons_self)).elim
  have F := x_fxE hB hH B hml htab hh hW
  rw [lg_entry_eq]
  subst hh
  exact x_tight (w p e _ s m _ below meth c s.heap [] _ F hH (xLR_entry hok hlen) (fun v hv => absurd hv List.not_mem_nil) (Nat.le_refl _) (Nat.le_refl _) (fun q hq => absurd hq List.not_mem_nil))
/-- the same of a method with handlers -/
theorem x_metH {G : XG} {K : XM} {d : Nat} {S L0 : List XV} {h : XH} {H : Heap} {Q : XV → XH → Prop} {X : Nat → XH → Prop} (hB : xBase G) (hH : xHR G h H) (hok : ∀ v ∈ S, xok v) (hlen : (xent S).length ≤ K.2.2.1) (hpl : plainName K.1.cls = true) (hL0 : xpad K.2.2.1 S = L0)
    (w : xwp G K d 0 L0 [] h Q X) : vx_Met (gl G) K.1 [.codeWith K.1 K.2.1 K.2.2.1 K.2.2.2.1 K.2.2.2.2] (xrm G H d) (xPc G S H) (xQc G Q) (xXc G X) (xmc G H) (xms G H) (fun q => gB G ≤ q) := by
  subst hL0
  refine vx_ofWH (cc := K.2.1) (maxL := K.2.2.1) (ret := K.2.2.2.1) (hh := K.2.2.2.2) hpl rfl ?_
  intro p e s m args below meth c s₁ B hml hP
  obtain ⟨rfl, hh, hW⟩ := hP
  have htab : c.exceptionTable.toList = tableOf K.2.2.2.2 := vx_table (x := K.1) B (atoms_spec B.pre _ List.mem_cons_self)
  have F := x_fxE hB hH B hml htab hh hW
  rw [lg_entry_eq]
  subst hh
  exact x_tight (w p e _ s m _ below meth c s.heap [] _ F hH (xLR_entry hok hlen) (fun v hv => absurd hv List.not_mem_nil) (Nat.le_refl _) (Nat.le_refl _) (fun q hq => absurd hq List.not_mem_nil))
section
variable {G : XG} {M : XM} {d : Nat} {p : Program} {e : Env} {R : Room} {s : State} {m : MethodId} {args : Array Value} {below : List Frame} {meth : Method} {c : Code} {H : Heap} {locs : List Loc} {pc : Nat} {ls : Array Slot} {st0 rest : List Value} {Q Q1 : XV → XH → Prop} {X X1 : Nat → XH → Prop} {mc ms : Nat} {a : Array Value}
theorem x_run (F : xFx G M d p e R s m args meth c) (hout : ∀ x ∈ c.exceptionTable.toList, covers x pc = false) (hlo : ∀ q ∈ locs, gB G ≤ q.base) (hf : (H.size - s.heap.size) + mc ≤ R.cells ∧ (xtsl H - xtsl s.heap) + ms ≤ R.slots)
    (hr : vx_Run p (gl G) e R s m args below meth c H locs (H.size - s.heap.size) (xtsl H - xtsl s.heap) mc ms (F0 m pc ls st0) rest (xQc G Q1 a) (xXc G X1) (fun q => gB G ≤ q))
    (kk : ∀ (v : XV) (h1 : XH) (H1 : Heap) (locs1 : List Loc), (v.1 = 8 ∨ (v.1 < 4 ∧ xok v)) → xHR G h1 H1 → Q1 v h1 → s.heap.size ≤ H1.size → xtsl s.heap ≤ xtsl H1 → (∀ q ∈ locs1, gB G ≤ q.base) →
      W p (gl G) e R s m args below meth c H1 locs1 (H1.size - s.heap.size) (xtsl H1 - xtsl s.heap) (xEnd G Q X below args s R) (F0 m (pc + 3) ls ((xrv G v).toList ++ rest)))
    (kx : ∀ (k : Nat) (h1 : XH), X1 k h1 → X k h1) : W p (gl G) e R s m args below meth c H locs (H.size - s.heap.size) (xtsl H - xtsl s.heap) (xEnd G Q X below args s R) (F0 m pc ls st0) := by
  intro T hT X9
  rcases hr T hT X9 with ⟨v, st₀, t, T', L9, h0, X', hL, e1, e2, hq, st⟩ | ⟨q, st₀, t, T', L9, E, ce, h0, X', hL, e1, e2, hx, hce, hcv, hcl, st⟩
  · obtain ⟨v1, h1, hv, hok, hH1, hQ⟩ := hq
    cases hv
    obtain ⟨y1, y2, y3, y4⟩ := x_same X'
    have hlo1 : ∀ q ∈ locs ++ L9, gB G ≤ q.base := fun q hq => by
      rcases List.mem_append.mp hq with z | z
      · exact hlo q z
      · exact hL q z
    have k2 := x_tight (cells := (H.size - s.heap.size) + mc) (slots := (xtsl H - xtsl s.heap) + ms) (kk v1 h1 T'.heap (locs ++ L9) hok (by rw [e1]; exact hH1) hQ y1 (by omega) hlo1)
    obtain ⟨t2, a1, b1⟩ := k2 T' rfl X'
    exact ⟨t2, st t2 a1, b1⟩
  · obtain ⟨k, h1, rfl, hk, hH1, hX⟩ := hx
    have hlo1 : ∀ q ∈ locs ++ L9, gB G ≤ q.base := fun q hq => by
      rcases List.mem_append.mp hq with z | z
      · exact hlo q z
      · exact hL q z
    have k2 := vx_out (p := p) (m := m) (l := gl G) (e := e) (R := R) (args := args) (below := below) (H := T'.heap) (locs := locs ++ L9) (ls := ls) (rest := rest) (Qc := xQc G Q) (XC := xXc G X) (free := fun q => gB G ≤ q) (pc := pc) (E := xex k) (ce := ce) (q := q) (mc := R.cells) (ms := R.slots) hout F.2.2.2.2.1 (by rw [e1]; exact hce) hcv hcl (fun t' ht' _ => ⟨k, h1, rfl, hk, by rw [ht', e1]; exact hH1, kx k h1 hX⟩) hlo1 hf.1 hf.2
    obtain ⟨t2, a1, b1⟩ := k2 T' rfl X'
    exact ⟨t2, st.trans a1, b1⟩
end
theorem xrv_push (G : XG) {v : XV} (h : v.1 = 8 ∨ (v.1 < 4 ∧ xok v)) (S : List XV) : (xrv G v).toList ++ S.map (xcv G) = (xpush v S).map (xcv G) ∧ ((∀ w ∈ S, xok w) → ∀ w ∈ xpush v S, xok w) := by
  obtain ⟨t, x⟩ := v
  rcases h with h | ⟨h, hok⟩
  · cases (show t = 8 from h)
    exact ⟨rfl, fun q => q⟩
  · have h4 : t < 4 := h
    match t, h4, hok with
    | 0, _, hok => exact ⟨rfl, fun q => xac hok q⟩
    | 1, _, hok => exact ⟨rfl, fun q => xac hok q⟩
    | 2, _, hok => exact ⟨rfl, fun q => xac hok q⟩
    | 3, _, hok => exact ⟨rfl, fun q => xac hok q⟩
theorem xall_app {A B : List XV} (h : ∀ v ∈ A ++ B, xok v) : (∀ v ∈ A, xok v) ∧ ∀ v ∈ B, xok v := ⟨fun v hv => h v (List.mem_append_left _ hv), fun v hv => h v (List.mem_append_right _ hv)⟩
theorem xFx.callB {G : XG} {M K : XM} {d : Nat} {p : Program} {e : Env} {R : Room} {s : State} {m : MethodId} {args : Array Value} {meth : Method} {c : Code} (F : xFx G M (d + 1) p e R s m args meth c) {H : Heap} {index n : Nat} (hcd : Cond.code K.1 K.2.1 K.2.2.1 K.2.2.2.1 ∈ lw_tbl) (hini : Cond.initialized K.1.cls ∈ lw_tbl) (hlk : Cond.methodLink M.1.cls index K.1 ∈ lw_tbl) (hmax : K.2.2.1 ≤ 45) (hnm : K.1.cls ≠ "java/lang/invoke/MethodHandle" ∧ K.1.cls ≠ "java/lang/invoke/VarHandle") (hsig : (parseMethodDescriptor K.1.desc).map (fun d => d.parameters.length) = some n) :
    CallB R s args M.1.cls index K.1 K.2.1 K.2.2.1 K.2.2.2.1 [.code K.1 K.2.1 K.2.2.1 K.2.2.2.1] (xrm G H d) (xmc G H) (xms G H) n := by
  refine ⟨rfl, rfl, F.2.2.2.2.2.2.2.1, ?_, ?_, List.mem_cons_self, F.word hcd rfl, F.word hini rfl, hnm, ?_, F.word hlk rfl⟩
  · have := F.2.2.2.2.2.2.2.2.1
    show 8 + (K.2.2.1 + 11) + 64 * d ≤ R.locals
    omega
  · intro w hw a' U hW
    rw [List.mem_singleton.mp hw]
    exact word_at hW (Or.inl rfl) (F.word hcd rfl)
  · intro sig h
    rw [h] at hsig
    exact (Option.some.inj hsig).symm
theorem xFx.fits {G : XG} {M : XM} {d : Nat} {p : Program} {e : Env} {R : Room} {s : State} {m : MethodId} {args : Array Value} {meth : Method} {c : Code} (F : xFx G M d p e R s m args meth c) {h : XH} {H : Heap} (hH : xHR G h H) (hz : s.heap.size ≤ H.size) (hy : xtsl s.heap ≤ xtsl H) : (H.size - s.heap.size) + xmc G H ≤ R.cells ∧ (xtsl H - xtsl s.heap) + xms G H ≤ R.slots := by
  have h1 := F.2.2.2.2.2.2.2.2.2.1; have h2 := F.2.2.2.2.2.2.2.2.2.2.1
  have h3 := hH.1; have h4 := hH.2.2.1; have h5 := hH.2.2.2.1; have h6 := hH.2.2.2.2.1
  unfold xmc xms
  omega
theorem xFx.nohand {G : XG} {M : XM} {d : Nat} {p : Program} {e : Env} {R : Room} {s : State} {m : MethodId} {args : Array Value} {meth : Method} {c : Code} (F : xFx G M d p e R s m args meth c) (hno : M.2.2.2.2 = []) {pc : Nat} : ∀ x ∈ c.exceptionTable.toList, covers x pc = false := by
  rw [F.2.2.2.2.2.2.2.2.2.2.2.2.2.1, hno]
  intro x hx
  exact absurd hx List.not_mem_nil
theorem xr_callV {G : XG} {M K : XM} {d pc : Nat} {L S : List XV} {h : XH} {Q : XV → XH → Prop} {X : Nat → XH → Prop} {index : Nat} {As S9 L0 : List XV} {b : Int} (hI : decode M.2.1 pc = .ok (.invokevirtual index, 3)) (hcd : Cond.code K.1 K.2.1 K.2.2.1 K.2.2.2.1 ∈ lw_tbl) (hini : Cond.initialized K.1.cls ∈ lw_tbl) (hlk : Cond.methodLink M.1.cls index K.1 ∈ lw_tbl) (hmax : K.2.2.1 ≤ 45) (hnm : K.1.cls ≠ "java/lang/invoke/MethodHandle" ∧ K.1.cls ≠ "java/lang/invoke/VarHandle") (hsig : (parseMethodDescriptor K.1.desc).map (fun d => d.parameters.length) = some As.length) (hpl : plainName K.1.cls = true) (hnoK : K.2.2.2.2 = []) (hnoM : M.2.2.2.2 = []) (hS8 : xcsum S ≤ 8) {ci N : Nat} {C : String} {T : u_T} (hc : xCL[ci]? = some (C, T, N)) (hci : ci < 100) (htb : xtg h b = ci) (hinst : Cond.instanceMethod K.1 ∈ lw_tbl) (hsel : Cond.selects C K.1 K.1 ∈ lw_tbl) (hlen : (xent (xR b :: As)).length ≤ K.2.2.1) (hst : As.reverse ++ xR b :: S = S9) (hL0 : xpad K.2.2.1 (xR b :: As) = L0)
    (w : xwp G K d 0 L0 [] h (fun v h1 => xwp G M (d + 1) (pc + 3) L (xpush v S) h1 Q X) X) : xwp G M (d + 1) pc L S9 h Q X := by
  subst hst
  intro p e R s m args below meth c H locs ls F hH hL hS hz hy hlo
  have hS1 := (xall_app hS).1
  have hS2 : ∀ v ∈ S, xok v := (xal1 (xall_app hS).2).2
  have hAs : ∀ v ∈ As, xok v := fun v hv => hS1 v (List.mem_reverse.mpr hv)
  have hok : ∀ v ∈ (xR b :: As), xok v := xac (show True from trivial) hAs
  have hM := x_met (K := K) F.base hH hok hlen hpl hnoK hL0 w
  have hfit := F.fits hH hz hy
  have hB := F.callB (K := K) (H := H) hcd hini hlk hmax hnm hsig
  obtain ⟨q, e1, ⟨cell, g1, g2, g3, g4⟩, e3⟩ := xcellw hH (F.2.2.2.2.2.2.2.2.2.2.2.2.2.2.2) htb hc hci
  have est : (As.reverse ++ xR b :: S).map (xcv G) = (As.map (xcv G)).reverse ++ .ref q :: S.map (xcv G) := by
    rw [List.map_append, List.map_reverse, List.map_cons, show xcv G (xR b) = .ref q from e1]
  rw [est]
  have hr := vx_runV (As := As.map (xcv G)) (rest := S.map (xcv G)) (Ts := []) (g := F0 m pc ls ((As.map (xcv G)).reverse ++ .ref q :: S.map (xcv G))) (locs := locs) (cells := H.size - s.heap.size) (slots := xtsl H - xtsl s.heap) (below := below) (e := e) (meth := meth) ⟨F.1, F.2.1, F.2.2.1, F.2.2.2.2.2.1, fun w hw => absurd hw List.not_mem_nil⟩ hM ⟨hB, F.word hinst rfl, F.word hsel rfl⟩ ⟨xPc_blind G _ H, ⟨cell, g1, g3.2, by rw [g2]; exact (F.known hc).2.1⟩, fun U hU hW => ⟨by rw [List.map_cons, show xcv G (xR b) = .ref q from e1], hU, State.WarmedH.trans F.2.2.2.2.2.2.1 hW⟩⟩ rfl (by rw [List.length_map]) (hL.1.1) rfl (by show 2 * 0 + ((S.map (xcv G)).map fun v => v.category).sum ≤ 8; rw [xcsum_eq]; omega) hI hfit
  exact x_run F (F.nohand hnoM) hlo hfit hr (fun v h1 H1 locs1 hv hH1 hQ1 y1 y3 hlo1 => by
    obtain ⟨q1, q2⟩ := xrv_push G hv S
    rw [q1]
    exact hQ1 p e R s m args below meth c H1 locs1 ls F hH1 hL (q2 hS2) y1 y3 hlo1) (fun _ _ q => q)
theorem xr_callS {G : XG} {M K : XM} {d pc : Nat} {L S : List XV} {h : XH} {Q : XV → XH → Prop} {X : Nat → XH → Prop} {index : Nat} {As S9 L0 : List XV} (hI : decode M.2.1 pc = .ok (.invokestatic index, 3)) (hcd : Cond.code K.1 K.2.1 K.2.2.1 K.2.2.2.1 ∈ lw_tbl) (hini : Cond.initialized K.1.cls ∈ lw_tbl) (hlk : Cond.methodLink M.1.cls index K.1 ∈ lw_tbl) (hmax : K.2.2.1 ≤ 45) (hnm : K.1.cls ≠ "java/lang/invoke/MethodHandle" ∧ K.1.cls ≠ "java/lang/invoke/VarHandle") (hsig : (parseMethodDescriptor K.1.desc).map (fun d => d.parameters.length) = some As.length) (hpl : plainName K.1.cls = true) (hnoK : K.2.2.2.2 = []) (hnoM : M.2.2.2.2 = []) (hS8 : xcsum S ≤ 8) (hstat : Cond.static K.1 ∈ lw_tbl) (hlen : (xent As).length ≤ K.2.2.1) (hst : As.reverse ++ S = S9) (hL0 : xpad K.2.2.1 As = L0)
    (w : xwp G K d 0 L0 [] h (fun v h1 => xwp G M (d + 1) (pc + 3) L (xpush v S) h1 Q X) X) : xwp G M (d + 1) pc L S9 h Q X := by
  subst hst
  intro p e R s m args below meth c H locs ls F hH hL hS hz hy hlo
  have hS1 := (xall_app hS).1
  have hS2 : ∀ v ∈ S, xok v := (xall_app hS).2
  have hAs : ∀ v ∈ As, xok v := fun v hv => hS1 v (List.mem_reverse.mpr hv)
  have hok : ∀ v ∈ As, xok v := hAs
  have hM := x_met (K := K) F.base hH hok hlen hpl hnoK hL0 w
  have hfit := F.fits hH hz hy
  have hB := F.callB (K := K) (H := H) hcd hini hlk hmax hnm hsig
  have est : (As.reverse ++ S).map (xcv G) = (As.map (xcv G)).reverse ++ S.map (xcv G) := by
    rw [List.map_append, List.map_reverse]
  rw [est]
  have hr := vx_runS (As := As.map (xcv G)) (rest := S.map (xcv G)) (Ts := []) (g := F0 m pc ls ((As.map (xcv G)).reverse ++ S.map (xcv G))) (locs := locs) (cells := H.size - s.heap.size) (slots := xtsl H - xtsl s.heap) (below := below) (e := e) (meth := meth) ⟨F.1, F.2.1, F.2.2.1, F.2.2.2.2.2.1, fun w hw => absurd hw List.not_mem_nil⟩ hM ⟨hB, F.word hstat rfl⟩ ⟨xPc_blind G _ H, fun U hU hW => ⟨rfl, hU, State.WarmedH.trans F.2.2.2.2.2.2.1 hW⟩⟩ rfl (by rw [List.length_map]) (hL.1.1) rfl (by show 2 * 0 + ((S.map (xcv G)).map fun v => v.category).sum ≤ 8; rw [xcsum_eq]; omega) hI hfit
  exact x_run F (F.nohand hnoM) hlo hfit hr (fun v h1 H1 locs1 hv hH1 hQ1 y1 y3 hlo1 => by
    obtain ⟨q1, q2⟩ := xrv_push G hv S
    rw [q1]
    exact hQ1 p e R s m args below meth c H1 locs1 ls F hH1 hL (q2 hS2) y1 y3 hlo1) (fun _ _ q => q)
theorem xr_callI {G : XG} {M K : XM} {d pc : Nat} {L S : List XV} {h : XH} {Q : XV → XH → Prop} {X : Nat → XH → Prop} {index : Nat} {As S9 L0 : List XV} {b : Int} (hI : decode M.2.1 pc = .ok (.invokespecial index, 3)) (hcd : Cond.code K.1 K.2.1 K.2.2.1 K.2.2.2.1 ∈ lw_tbl) (hini : Cond.initialized K.1.cls ∈ lw_tbl) (hlk : Cond.methodLink M.1.cls index K.1 ∈ lw_tbl) (hmax : K.2.2.1 ≤ 45) (hnm : K.1.cls ≠ "java/lang/invoke/MethodHandle" ∧ K.1.cls ≠ "java/lang/invoke/VarHandle") (hsig : (parseMethodDescriptor K.1.desc).map (fun d => d.parameters.length) = some As.length) (hpl : plainName K.1.cls = true) (hnoK : K.2.2.2.2 = []) (hnoM : M.2.2.2.2 = []) (hS8 : xcsum S ≤ 8) (hb0 : -1 < b) (hinst : Cond.instanceMethod K.1 ∈ lw_tbl) (hname : K.1.name = "<init>") (hret : K.2.2.2.1 = none) (hlen : (xent (xR b :: As)).length ≤ K.2.2.1) (hst : As.reverse ++ xR b :: S = S9) (hL0 : xpad K.2.2.1 (xR b :: As) = L0)
    (w : xwp G K d 0 L0 [] h (fun v h1 => xwp G M (d + 1) (pc + 3) L (xpush v S) h1 Q X) X) : xwp G M (d + 1) pc L S9 h Q X := by
  subst hst
  intro p e R s m args below meth c H locs ls F hH hL hS hz hy hlo
  have hS1 := (xall_app hS).1
  have hS2 : ∀ v ∈ S, xok v := (xal1 (xall_app hS).2).2
  have hAs : ∀ v ∈ As, xok v := fun v hv => hS1 v (List.mem_reverse.mpr hv)
  have hok : ∀ v ∈ (xR b :: As), xok v := xac (show True from trivial) hAs
  have hM := x_met (K := K) F.base hH hok hlen hpl hnoK hL0 w
  have hfit := F.fits hH hz hy
  have hB := F.callB (K := K) (H := H) hcd hini hlk hmax hnm hsig
  have e1 : xadr G b = .ref (gB G + b.toNat) := hH.adr (by omega)
  have est : (As.reverse ++ xR b :: S).map (xcv G) = (As.map (xcv G)).reverse ++ .ref (gB G + b.toNat) :: S.map (xcv G) := by
    rw [List.map_append, List.map_reverse, List.map_cons, show xcv G (xR b) = .ref (gB G + b.toNat) from e1]
  rw [est]
  rw [hret] at hB hM
  have hr := vx_runI (As := As.map (xcv G)) (rest := S.map (xcv G)) (Ts := []) (g := F0 m pc ls ((As.map (xcv G)).reverse ++ .ref (gB G + b.toNat) :: S.map (xcv G))) (locs := locs) (cells := H.size - s.heap.size) (slots := xtsl H - xtsl s.heap) (below := below) (e := e) (meth := meth) ⟨F.1, F.2.1, F.2.2.1, F.2.2.2.2.2.1, fun w hw => absurd hw List.not_mem_nil⟩ hM ⟨hB, hname, F.word hinst rfl⟩ ⟨xPc_blind G _ H, fun U hU hW => ⟨by rw [List.map_cons, show xcv G (xR b) = .ref (gB G + b.toNat) from e1], hU, State.WarmedH.trans F.2.2.2.2.2.2.1 hW⟩⟩ rfl (by rw [List.length_map]) (hL.1.1) rfl (by show 2 * 0 + ((S.map (xcv G)).map fun v => v.category).sum ≤ 8; rw [xcsum_eq]; omega) hI hfit
  exact x_run F (F.nohand hnoM) hlo hfit hr (fun v h1 H1 locs1 hv hH1 hQ1 y1 y3 hlo1 => by
    obtain ⟨q1, q2⟩ := xrv_push G hv S
    rw [q1]
    exact hQ1 p e R s m args below meth c H1 locs1 ls F hH1 hL (q2 hS2) y1 y3 hlo1) (fun _ _ q => q)
end XK
