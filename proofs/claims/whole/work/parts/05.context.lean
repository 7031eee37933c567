/-! ===== the abstract heap over the machine's; a method's frame over an abstract one ===== -/
section XC
def xKC : Int := 601024
def xKS : Int := 7293034
def xtsl (H : Heap) : Nat := H.foldl (fun n c => n + c.slots.size) 0
/-- what a cell of tag t (a class's number, or 100 and on an array's kind) holds -/
def xCR (G : XG) (H : Heap) (q : Nat) (t : Nat) (n : Int) (c : Int → Int) : Prop :=
  (t < 100 → ∃ r : vw_C, xCL[t]? = some r ∧ t_OB q (gC G t) r.2.2 (gI G t) H (fun k => xcv G (xfty t k, c (k : Int))) ∧ ∀ k : Nat, k < r.2.2 → xok (xfty t k, c (k : Int))) ∧
  (100 ≤ t → t < 200 → 0 ≤ n ∧ n ≤ 2147483647 ∧ H[q]? = some (arrV (gA G t) n.toNat (fun j => xcv G (xaty t, c (j : Int)))) ∧ ∀ j : Nat, (j : Int) < n → xok (xaty t, c (j : Int)))
theorem xCR.kept {G : XG} {H H1 : Heap} {q t : Nat} {n : Int} {c : Int → Int} (h : xCR G H q t n c) (hq : H1[q]? = H[q]?) : xCR G H1 q t n c := by
  refine ⟨fun ht => ?_, fun h1 h2 => ?_⟩
  · obtain ⟨r, a, b, d⟩ := h.1 ht
    exact ⟨r, a, b.kept hq, d⟩
  · obtain ⟨a, b, d, e⟩ := h.2 h1 h2
    exact ⟨a, b, by rw [hq]; exact d, e⟩
theorem xCR.other {G : XG} {H : Heap} {q t : Nat} {n : Int} {c : Int → Int} (h : 200 ≤ t) : xCR G H q t n c := ⟨fun h1 => by omega, fun h1 h2 => by omega⟩
/-- the same of a cell that was there before: nothing of its monitor, hash or further data -/
def xOW (G : XG) (H : Heap) (q ci N : Nat) (V : Nat → Value) : Prop := ∃ cell : Cell, H[q]? = some cell ∧ cell.cls = gC G ci ∧ (cell.vm ≠ .unknown ∧ cell.vm.isStatics = false) ∧ ∀ k, k < N → cell.slots[gI G ci k]? = some (V k)
def xAW (G : XG) (H : Heap) (q t n : Nat) (f : Nat → Value) : Prop := ∃ cell : Cell, H[q]? = some cell ∧ (xaok t = true → (gs G).isArrayOf cell (xaft t)) ∧ (t ≠ 112 → cell.cls = gA G t) ∧ (cell.vm ≠ .unknown ∧ cell.vm.isStatics = false) ∧ (n ≤ cell.slots.size ∧ cell.slots.size.toInt32 = Int32.ofNat n ∧ ∀ j : Nat, j < n → cell.slots[j]? = some (f j))
def xCRw (G : XG) (H : Heap) (q : Nat) (t : Nat) (n : Int) (c : Int → Int) : Prop :=
  (t < 100 → ∃ r : vw_C, xCL[t]? = some r ∧ xOW G H q t r.2.2 (fun k => xcv G (xfty t k, c (k : Int))) ∧ ∀ k : Nat, k < r.2.2 → xok (xfty t k, c (k : Int))) ∧
  (100 ≤ t → t < 200 → 0 ≤ n ∧ n ≤ 2147483647 ∧ xAW G H q t n.toNat (fun j => xcv G (xaty t, c (j : Int))) ∧ ∀ j : Nat, (j : Int) < n → xok (xaty t, c (j : Int)))
theorem xCRw.kept {G : XG} {H H1 : Heap} {q t : Nat} {n : Int} {c : Int → Int} (h : xCRw G H q t n c) (hq : H1[q]? = H[q]?) : xCRw G H1 q t n c := by
  refine ⟨fun ht => ?_, fun h1 h2 => ?_⟩
  · obtain ⟨r, a, ⟨cell, b, b2⟩, d⟩ := h.1 ht
    exact ⟨r, a, ⟨cell, by rw [hq]; exact b, b2⟩, d⟩
  · obtain ⟨a, b, ⟨cell, d, d2⟩, e⟩ := h.2 h1 h2
    exact ⟨a, b, ⟨cell, by rw [hq]; exact d, d2⟩, e⟩
theorem xCR.weak {G : XG} {H : Heap} {q t : Nat} {n : Int} {c : Int → Int} (hA : ∀ t : Nat, xaok t = true → ArrOfT (gs G) (gA G t) (xaft t)) (h : xCR G H q t n c) : xCRw G H q t n c := by
  refine ⟨fun ht => ?_, fun h1 h2 => ?_⟩
  · obtain ⟨r, a, ⟨cell, b1, b2, b3, b4⟩, d⟩ := h.1 ht
    exact ⟨r, a, ⟨cell, b1, b2, ⟨by rw [b3]; exact fun z => (by cases z), by rw [b3]; rfl⟩, b4⟩, d⟩
  · obtain ⟨a, b, d, e⟩ := h.2 h1 h2
    exact ⟨a, b, ⟨_, d, fun hx => hA t hx _ _, fun _ => rfl, ⟨fun z => (by cases z), rfl⟩, ⟨by rw [arrV_size]; exact Nat.le_refl _, by rw [arrV_size], fun j hj => arrV_read _ _ hj⟩⟩, e⟩
def xHR (G : XG) (h : XH) (H : Heap) : Prop :=
  (H.size : Int) = gB G + xnx h ∧ 0 ≤ xnx h ∧ xnx h ≤ xKC ∧ (xtsl H : Int) ≤ xtsl (gs G).heap + xsl h ∧ xsl h ≤ xKS ∧
  (∀ q : Nat, q < gB G → H[q]? = (gs G).heap[q]?) ∧
  (∀ a : Nat, (a : Int) < xnx h → xCR G H (gB G + a) (xtg h a) (xln h a) (xpl h a)) ∧
  (∀ a : Int, xnx h ≤ a → xtg h a = 999) ∧ xtg h (-1) = 999 ∧
  (∀ k : Nat, xtg h (-2 - (k : Int)) < 200 → gd G k < gB G ∧ xCRw G H (gd G k) (xtg h (-2 - (k : Int))) (xln h (-2 - (k : Int))) (xpl h (-2 - (k : Int))))
/-- a reference to a cell of a known kind -/
theorem xHR.at {G : XG} {h : XH} {H : Heap} (hH : xHR G h H) {r : Int} (hr : 0 ≤ r) (ht : xtg h r < 200) : ∃ q : Nat, xadr G r = .ref q ∧ xCR G H q (xtg h r) (xln h r) (xpl h r) ∧ q < H.size := by
  obtain ⟨h1, h2, -, -, -, h6, h7, h8, h9, h10⟩ := hH
  unfold xadr
  have hl : r < xnx h := by
    rcases Int.lt_or_le r (xnx h) with q | q
    · exact q
    · have := h8 r q; omega
  have e : r = (r.toNat : Int) := by omega
  refine ⟨gB G + r.toNat, by rw [if_pos hr], ?_, by omega⟩
  rw [e]
  exact h7 r.toNat (by omega)
theorem xHR.atw {G : XG} {h : XH} {H : Heap} (hH : xHR G h H) (hA : ∀ t : Nat, xaok t = true → ArrOfT (gs G) (gA G t) (xaft t)) {r : Int} (ht : xtg h r < 200) : ∃ q : Nat, xadr G r = .ref q ∧ xCRw G H q (xtg h r) (xln h r) (xpl h r) ∧ q < H.size := by
  by_cases hr : 0 ≤ r
  · obtain ⟨q, a, b, d⟩ := hH.at hr ht
    exact ⟨q, a, b.weak hA, d⟩
  · obtain ⟨h1, h2, -, -, -, h6, h7, h8, h9, h10⟩ := hH
    unfold xadr
    by_cases hn : r = -1
    · subst hn; rw [h9] at ht; omega
    · have e : r = -2 - ((-2 - r).toNat : Int) := by omega
      have ht' := ht
      rw [e] at ht'
      obtain ⟨a, b⟩ := h10 _ ht'
      refine ⟨gd G (-2 - r).toNat, by rw [if_neg hr, if_neg hn], ?_, by omega⟩
      rw [← e] at b
      exact b
theorem xHR.tg_lt {G : XG} {h : XH} {H : Heap} (hH : xHR G h H) {r : Int} (hr : 0 ≤ r) (ht : xtg h r < 200) : r < xnx h := by
  rcases Int.lt_or_le r (xnx h) with q | q
  · exact q
  · have := hH.2.2.2.2.2.2.2.1 r q; omega
theorem xHR.adr {G : XG} {h : XH} {H : Heap} (hH : xHR G h H) {r : Int} (hr : 0 ≤ r) : xadr G r = .ref (gB G + r.toNat) := by unfold xadr; rw [if_pos hr]
/-- the machine's cell at r has changed to a cell that holds c' -/
theorem xHR.upd {G : XG} {h : XH} {H H1 : Heap} (hH : xHR G h H) {r : Int} (hr : 0 ≤ r) (hz : H1.size = H.size) (ho : ∀ q : Nat, q ≠ gB G + r.toNat → H1[q]? = H[q]?) (hs : xtsl H1 ≤ xtsl H) {k v : Int}
    (hc : r < xnx h → xCR G H1 (gB G + r.toNat) (xtg h r) (xln h r) (xpl (xst h r k v) r)) : xHR G (xst h r k v) H1 := by
  obtain ⟨h1, h2, h3, h4, h5, h6, h7, h8, h9, h10⟩ := hH
  refine ⟨by rw [hz]; exact h1, h2, h3, by show (xtsl H1 : Int) ≤ xtsl (gs G).heap + xsl h; omega, h5, fun q hq => ?_, fun a ha => ?_, h8, h9, fun j hj => ?_⟩
  · rw [ho q (by omega)]; exact h6 q hq
  · by_cases e : (a : Int) = r
    · subst e
      have := hc ha
      rw [Int.toNat_natCast] at this
      exact this
    · have e1 : xpl (xst h r k v) (a : Int) = xpl h a := by
        funext j
        rw [xpl_st, if_neg (fun z => e z.1)]
      show xCR G H1 (gB G + a) (xtg h a) (xln h a) (xpl (xst h r k v) (a : Int))
      rw [e1]
      exact (h7 a ha).kept (ho _ (by omega))
  · obtain ⟨a, b⟩ := h10 j hj
    refine ⟨a, ?_⟩
    have e1 : xpl (xst h r k v) (-2 - (j : Int)) = xpl h (-2 - (j : Int)) := by
      funext i
      rw [xpl_st, if_neg (fun z => by omega)]
    show xCRw G H1 (gd G j) (xtg h (-2 - (j : Int))) (xln h (-2 - (j : Int))) (xpl (xst h r k v) (-2 - (j : Int)))
    rw [e1]
    exact b.kept (ho _ (by omega))
/-- a new cell behind the others -/
theorem xHR.push {G : XG} {h : XH} {H H1 : Heap} (hH : xHR G h H) {t : Nat} {n : Int} {c : Int → Int} (hz : H1.size = H.size + 1) (ho : ∀ q : Nat, q < H.size → H1[q]? = H[q]?) (hs : (xtsl H1 : Int) ≤ xtsl H + n) (hC : xnx h + 1 ≤ xKC) (hS : xsl h + n ≤ xKS)
    (hc : xCR G H1 H.size t n c) : xHR G (xmk h t n c) H1 := by
  obtain ⟨h1, h2, h3, h4, h5, h6, h7, h8, h9, h10⟩ := hH
  refine ⟨by rw [hz, xnx_mk]; omega, by rw [xnx_mk]; omega, by rw [xnx_mk]; exact hC, by rw [xsl_mk]; omega, by rw [xsl_mk]; exact hS, fun q hq => ?_, fun a ha => ?_, fun a ha => ?_, ?_, fun j hj => ?_⟩
  · rw [ho q (by omega)]; exact h6 q hq
  · rw [xnx_mk] at ha
    by_cases e : (a : Int) = xnx h
    · have e1 : gB G + a = H.size := by omega
      have e2 : xpl (xmk h t n c) (a : Int) = c := by
        funext j
        rw [xpl_mk, if_pos e]
      rw [xtg_mk, xln_mk, if_pos e, if_pos e, e2, e1]
      exact hc
    · have e2 : xpl (xmk h t n c) (a : Int) = xpl h a := by
        funext j
        rw [xpl_mk, if_neg e]
      rw [xtg_mk, xln_mk, if_neg e, if_neg e, e2]
      exact (h7 a (by omega)).kept (ho _ (by omega))
  · rw [xnx_mk] at ha
    rw [xtg_mk, if_neg (by omega)]
    exact h8 a (by omega)
  · rw [xtg_mk, if_neg (by omega)]
    exact h9
  · have e : ¬ (-2 - (j : Int)) = xnx h := by omega
    have e2 : xpl (xmk h t n c) (-2 - (j : Int)) = xpl h (-2 - (j : Int)) := by
      funext i
      rw [xpl_mk, if_neg e]
    rw [xtg_mk, if_neg e] at hj
    obtain ⟨a, b⟩ := h10 j hj
    rw [xtg_mk, xln_mk, if_neg e, if_neg e, e2]
    exact ⟨a, b.kept (ho _ (by omega))⟩
/-- the static fields whose values are known -/
def xST : List (String × String × String × XV) := [("BeaconIndex$Words", "POWERS", "[J", xR (-102)), ("BeaconIndexModel", "SMALL_WORDS", "[Ljava/lang/String;", xR (-104)), ("java/lang/String", "COMPACT_STRINGS", "Z", xI 1), ("java/util/ArrayList", "DEFAULTCAPACITY_EMPTY_ELEMENTDATA", "[Ljava/lang/Object;", xR (-103))]
/-- the String constants: class, entry, text, number -/
def xSR : List (String × Nat × String × Nat) := [("BeaconIndex$Tape", 105, "ies", 0), ("BeaconIndex$Tape", 111, "sses", 2), ("BeaconIndex$Tape", 113, "s", 4), ("BeaconIndex$Tape", 115, "ss", 6), ("BeaconIndex$Tape", 117, "us", 8), ("BeaconIndex$Tape", 119, "ing", 10), ("BeaconIndex$Tape", 121, "ed", 12), ("BeaconIndex$Tape", 82, "the", 14), ("BeaconIndex$Tape", 87, "a", 16), ("BeaconIndex$Tape", 89, "an", 18), ("BeaconIndex$Tape", 91, "of", 20), ("BeaconIndex$Tape", 93, "and", 22), ("BeaconIndex$Tape", 95, "or", 24), ("BeaconIndex$Tape", 97, "to", 26), ("BeaconIndex$Tape", 99, "in", 28), ("BeaconIndex$QuestionReader", 190, "title", 30), ("BeaconIndex$QuestionReader", 196, "body", 32), ("BeaconIndexModel", 155, "ies", 34), ("BeaconIndexModel", 164, "sses", 36), ("BeaconIndexModel", 166, "s", 38), ("BeaconIndexModel", 168, "ss", 40), ("BeaconIndexModel", 170, "us", 42), ("BeaconIndexModel", 172, "ing", 44), ("BeaconIndexModel", 174, "ed", 46), ("java/util/Arrays", 48, "fromIndex(", 48), ("java/util/Arrays", 57, ") > toIndex(", 50), ("java/util/Arrays", 59, ")", 52), ("java/util/Arrays", 337, " > ", 54), ("java/lang/ArrayIndexOutOfBoundsException", 13, "Array index out of range: ", 56), ("BeaconIndexModel", 247, "+-\"*~^:()", 58), ("BeaconIndexModel", 287, "title", 60), ("BeaconIndexModel", 289, "body", 62), ("BeaconIndexModel", 487, "the", 64), ("BeaconIndexModel", 489, "a", 66), ("BeaconIndexModel", 491, "an", 68), ("BeaconIndexModel", 493, "of", 70), ("BeaconIndexModel", 495, "and", 72), ("BeaconIndexModel", 497, "or", 74), ("BeaconIndexModel", 499, "to", 76), ("BeaconIndexModel", 501, "in", 78)]
/-- pairs of exception classes of which the first is not the second -/
def xNC : List (String × String) := [("java/lang/IllegalStateException", "java/lang/IllegalArgumentException"), ("java/lang/IndexOutOfBoundsException", "java/lang/IllegalArgumentException"), ("java/lang/IllegalArgumentException", "java/lang/IllegalStateException"), ("java/lang/IndexOutOfBoundsException", "java/lang/IllegalStateException")]
/-- what is given of the ground -/
def xBase (G : XG) : Prop :=
  (gl G).stackTraces = false ∧ (∃ A0 : Array Value, ∀ w ∈ lw_tbl, w.before A0 (gs G) = true) ∧
  (∀ (i : Nat) (q : vw_C), xCL[i]? = some q → u_Kn (gs G) q.1 q.2.1 q.2.2 (gC G i) (gI G i)) ∧
  (∀ t : Nat, xaok t = true → ArrOfT (gs G) (gA G t) (xaft t) ∧ va_RA (gs G) (gA G t) (xaft t) ∧ (gs G).vm.findClass ("[" ++ (xaft t).toString) = some (gA G t)) ∧
  (∀ q ∈ xST, va_Z q.1 q.2.1 q.2.2.1 (xcv G q.2.2.2) (fun a => gB G ≤ a) (gs G) (gs G).heap) ∧ (∀ q ∈ xSR, vk_R q.1 q.2.1 q.2.2.1 (gd G q.2.2.2) (gs G)) ∧
  (va_Z "jdk/internal/util/Preconditions" "SIOOBE_FORMATTER" "Ljava/util/function/BiFunction;" .null (fun a => gB G ≤ a) (gs G) (gs G).heap ∨ va_Z "jdk/internal/util/Preconditions" "SIOOBE_FORMATTER" "Ljava/util/function/BiFunction;" (.ref (gd G 105)) (fun a => gB G ≤ a) (gs G) (gs G).heap) ∧ vx_Zq Bundle.tN "UNASSIGNED_STACK" Bundle.steD (fun a => gB G ≤ a) (gs G) (gs G).heap ∧ vx_Zq Bundle.tN "SUPPRESSED_SENTINEL" Bundle.listD (fun a => gB G ≤ a) (gs G) (gs G).heap ∧ va_Mi "[Ljava/lang/Object;" (gd G 104) (gs G) ∧ (∀ q ∈ xNC, va_Nc q.1 q.2 (gs G))
/-- a method: its name, bytes, locals, answer, handlers -/
abbrev XM : Type := MethodName × ByteArray × Nat × Option FieldType × List (Nat × Nat × Nat × Nat)
/-- what is known where a method's frame stands -/
def xFx (G : XG) (M : XM) (d : Nat) (p : Program) (e : Env) (R : Room) (s : State) (m : MethodId) (args : Array Value) (meth : Method) (c : Code) : Prop :=
  p.tables.exec = Jvm.exec ∧ c.code = M.2.1 ∧ c.maxLocals = M.2.2.1 ∧ meth.sig.returnType = M.2.2.2.1 ∧ meth.locks = false ∧ s.vm.findClass M.1.cls = some m.cls ∧ (gs G).WarmedH s.vm ∧
  d ≤ R.frames ∧ 64 * d ≤ R.locals ∧ (gB G : Int) + xKC ≤ s.heap.size + R.cells ∧ (xtsl (gs G).heap : Int) + xKS ≤ xtsl s.heap + R.slots ∧
  gB G ≤ s.heap.size ∧ (∀ q : Nat, q < gB G → s.heap[q]? = (gs G).heap[q]?) ∧ c.exceptionTable.toList = tableOf M.2.2.2.2 ∧ meth.name = M.1.name ∧ xBase G
/-- a value handed back: (8, _) is none -/
def xrv (G : XG) (v : XV) : Option Value := if v.1 = 8 then none else some (xcv G v)
/-- the exceptions' classes -/
def xex (k : Nat) : String := match k with | 0 => "java/lang/IllegalArgumentException" | 1 => "java/lang/IllegalStateException" | _ => "java/lang/IndexOutOfBoundsException"
def xQc (G : XG) (Q : XV → XH → Prop) : Array Value → State → Outcome → State → Prop := fun _ _ o t => ∃ (v : XV) (h : XH), o = .returned (xrv G v) ∧ (v.1 = 8 ∨ (v.1 < 4 ∧ xok v)) ∧ xHR G h t.heap ∧ Q v h
def xXc (G : XG) (X : Nat → XH → Prop) : String → State → State → Prop := fun E _ t => ∃ (k : Nat) (h : XH), E = xex k ∧ k < 3 ∧ xHR G h t.heap ∧ X k h
def xEnd (G : XG) (Q : XV → XH → Prop) (X : Nat → XH → Prop) (below : List Frame) (args : Array Value) (s : State) (R : Room) : State → Prop :=
  vx_MQ below (xQc G Q) (xXc G X) args s R.cells R.slots (fun q => gB G ≤ q)
/-- THE JUDGEMENT: method M at pc, locals L, stack S, heap h: it ends, with Q of answer and heap, or with X of exception and heap -/
def xwp (G : XG) (M : XM) (d : Nat) (pc : Nat) (L S : List XV) (h : XH) (Q : XV → XH → Prop) (X : Nat → XH → Prop) : Prop :=
  ∀ (p : Program) (e : Env) (R : Room) (s : State) (m : MethodId) (args : Array Value) (below : List Frame) (meth : Method) (c : Code) (H : Heap) (locs : List Loc) (ls : Array Slot),
    xFx G M d p e R s m args meth c → xHR G h H → xLR G M.2.2.1 L ls → (∀ v ∈ S, xok v) → s.heap.size ≤ H.size → xtsl s.heap ≤ xtsl H → (∀ q ∈ locs, gB G ≤ q.base) →
    W p (gl G) e R s m args below meth c H locs (H.size - s.heap.size) (xtsl H - xtsl s.heap) (xEnd G Q X below args s R) (F0 m pc ls (S.map (xcv G)))
section
variable {p : Program} {l : Launch} {e : Env} {R : Room} {s : State} {m : MethodId} {args : Array Value} {below : List Frame} {meth : Method} {c : Code} {H : Heap} {locs : List Loc} {cells slots : Nat} {Q : State → Prop} {g : JFrame}
theorem x_same {T : State} (X : Stand p l e R s m args below meth c T locs cells slots) : s.heap.size ≤ T.heap.size ∧ T.heap.size ≤ s.heap.size + cells ∧ xtsl T.heap = xtsl s.heap + ((T.heap.toList.drop s.heap.size).map (·.slots.size)).sum ∧ ((T.heap.toList.drop s.heap.size).map (·.slots.size)).sum ≤ slots := by
  have h0 := X.room
  simp only [State.hasRoom, Bool.and_eq_true] at h0
  have h1 : s.slotsUsed = xtsl s.heap := by have := h0.2; simpa [State.slotsTrue, xtsl] using this
  have h2 : T.slotsUsed = xtsl T.heap := by have := X.book; simpa [State.slotsTrue, xtsl] using this
  obtain ⟨-, e2, e3, e4, e5, -⟩ := X.same
  have e4' : T.slotsUsed = s.slotsUsed + ((T.heap.toList.drop s.heap.size).map (·.slots.size)).sum := e4
  exact ⟨e2, e3, by rw [← h2, ← h1]; exact e4', e5⟩
/-- of a heap where a frame stands: how much it has grown -/
theorem x_know (k : s.heap.size ≤ H.size → H.size ≤ s.heap.size + cells → xtsl s.heap ≤ xtsl H → xtsl H ≤ xtsl s.heap + slots → W p l e R s m args below meth c H locs cells slots Q g) : W p l e R s m args below meth c H locs cells slots Q g := by
  intro T hT X
  obtain ⟨a, b, d, e9⟩ := x_same X
  subst hT
  exact k a b (by omega) (by omega) T rfl X
/-- the counts are the heap's own -/
theorem x_tight (k : W p l e R s m args below meth c H locs (H.size - s.heap.size) (xtsl H - xtsl s.heap) Q g) : W p l e R s m args below meth c H locs cells slots Q g := by
  intro T hT X
  obtain ⟨a, b, d, e9⟩ := x_same X
  subst hT
  refine k T rfl { X with same := ?_ }
  obtain ⟨e1, e2, e3, e4, e5, e6⟩ := X.same
  refine ⟨e1, e2, ?_, e4, ?_, e6⟩
  · show T.heap.size ≤ s.heap.size + (T.heap.size - s.heap.size)
    omega
  · show ((T.heap.toList.drop s.heap.size).map (·.slots.size)).sum ≤ xtsl T.heap - xtsl s.heap
    omega
end
/-- the ground's good words hold where a frame stands -/
theorem xFx.word {G : XG} {M : XM} {d : Nat} {p : Program} {e : Env} {R : Room} {s : State} {m : MethodId} {args : Array Value} {meth : Method} {c : Code} (F : xFx G M d p e R s m args meth c) {w : Cond} (hw : w ∈ lw_tbl) (hg : goodWord w = true) : w.before args s = true := by
  obtain ⟨-, -, -, -, -, -, hW, -, -, -, -, -, -, -, -, -, ⟨A0, hb⟩, -⟩ := F
  exact word_at hW (good_of_word hg) (hb w hw)
theorem xFx.known {G : XG} {M : XM} {d : Nat} {p : Program} {e : Env} {R : Room} {s : State} {m : MethodId} {args : Array Value} {meth : Method} {c : Code} (F : xFx G M d p e R s m args meth c) {i : Nat} {q : vw_C} (hi : xCL[i]? = some q) : u_Kn s q.1 q.2.1 q.2.2 (gC G i) (gI G i) := by
  obtain ⟨-, -, -, -, -, -, hW, -, -, -, -, -, -, -, -, -, -, hk, -⟩ := F
  exact u_Kn_moved hW.alike (hk i q hi)
theorem xFx.arr {G : XG} {M : XM} {d : Nat} {p : Program} {e : Env} {R : Room} {s : State} {m : MethodId} {args : Array Value} {meth : Method} {c : Code} (F : xFx G M d p e R s m args meth c) {t : Nat} (ht : xaok t = true) : ArrOfT s (gA G t) (xaft t) ∧ va_RA s (gA G t) (xaft t) ∧ s.vm.findClass ("[" ++ (xaft t).toString) = some (gA G t) := by
  obtain ⟨-, -, -, -, -, -, hW, -, -, -, -, -, -, -, -, -, -, -, ha, -⟩ := F
  obtain ⟨h1, h2, h3⟩ := ha t ht
  exact ⟨arrOfT_moved hW.alike h1, h2.moved hW.alike, by rw [hW.alike.findClass]; exact h3⟩
end XC
