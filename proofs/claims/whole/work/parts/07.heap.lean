/-! ===== the rows of the judgement that read or write the heap ===== -/
section XQ
/-- the kind of a value on the stack, of the kind of a field or a place -/
def xsty (t : Nat) : Nat := match t with
  | 4 => 0
  | 5 => 0
  | 6 => 0
  | t => t
theorem xcv_sty (G : XG) (t : Nat) (x : Int) : xcv G (xsty t, x) = xcv G (t, x) := by
  match t with
  | 0 => rfl
  | 1 => rfl
  | 2 => rfl
  | 3 => rfl
  | 4 => rfl
  | 5 => rfl
  | 6 => rfl
  | n + 7 => rfl
theorem xok_sty {t : Nat} {x : Int} (h : xok (t, x)) : xok (xsty t, x) := by
  match t, h with
  | 0, h => exact h
  | 1, h => exact h
  | 2, h => exact h
  | 3, h => exact h
  | 4, h => show xiR x; have h1 : 0 ≤ x ∧ x ≤ 1 := h; exact ⟨by omega, by omega⟩
  | 5, h => show xiR x; have h1 : -128 ≤ x ∧ x ≤ 127 := h; exact ⟨by omega, by omega⟩
  | 6, h => show xiR x; have h1 : 0 ≤ x ∧ x ≤ 65535 := h; exact ⟨by omega, by omega⟩
  | n + 7, h => exact h
theorem xi_clamp {a : Int} (h : xiR a) : (Int32.ofInt a).toNatClampNeg = a.toNat := by
  show (Int32.ofInt a).toInt.toNat = _
  rw [xi_to h]
theorem xi_in {i n : Int} (h : 0 ≤ i) (h2 : i < n) (hn : n ≤ 2147483647) : ¬ (Int32.ofInt i < 0 ∨ n.toNat ≤ (Int32.ofInt i).toNatClampNeg) := by
  have hi : xiR i := ⟨by omega, by omega⟩
  rw [xi_clamp hi]
  rintro (q | q)
  · have q2 : Int32.ofInt i < Int32.ofInt 0 := q
    rw [xi_lt hi xi_z] at q2
    omega
  · omega
theorem xcell {G : XG} {h : XH} {H : Heap} (hH : xHR G h H) {r : Int} {ci : Nat} {q : vw_C} (hr : 0 ≤ r) (ht : xtg h r = ci) (hc : xCL[ci]? = some q) (h1 : ci < 100) : ∃ a : Nat, xadr G r = .ref a ∧ t_OB a (gC G ci) q.2.2 (gI G ci) H (fun k => xcv G (xfty ci k, xpl h r (k : Int))) ∧ ∀ k : Nat, k < q.2.2 → xok (xfty ci k, xpl h r (k : Int)) := by
  subst ht
  obtain ⟨a, e1, e2, -⟩ := hH.at (r := r) hr (by omega)
  obtain ⟨r', e3, e4, e5⟩ := e2.1 h1
  cases hc.symm.trans e3
  exact ⟨a, e1, e4, e5⟩
theorem xarr {G : XG} {h : XH} {H : Heap} (hH : xHR G h H) {r : Int} {t : Nat} (hr : 0 ≤ r) (ht : xtg h r = t) (h1 : 100 ≤ t) (h2 : t < 200) : ∃ a : Nat, xadr G r = .ref a ∧ 0 ≤ xln h r ∧ xln h r ≤ 2147483647 ∧ H[a]? = some (arrV (gA G t) (xln h r).toNat (fun j => xcv G (xaty t, xpl h r (j : Int)))) ∧ ∀ j : Nat, (j : Int) < xln h r → xok (xaty t, xpl h r (j : Int)) := by
  subst ht
  obtain ⟨a, e1, e2, -⟩ := hH.at (r := r) hr (by omega)
  obtain ⟨e3, e4, e5, e6⟩ := e2.2 h1 h2
  exact ⟨a, e1, e3, e4, e5, e6⟩
theorem xcellw {G : XG} {h : XH} {H : Heap} (hH : xHR G h H) (hB : xBase G) {r : Int} {ci : Nat} {q : vw_C} (ht : xtg h r = ci) (hc : xCL[ci]? = some q) (h1 : ci < 100) : ∃ a : Nat, xadr G r = .ref a ∧ xOW G H a ci q.2.2 (fun k => xcv G (xfty ci k, xpl h r (k : Int))) ∧ ∀ k : Nat, k < q.2.2 → xok (xfty ci k, xpl h r (k : Int)) := by
  subst ht
  obtain ⟨a, e1, e2, -⟩ := hH.atw (fun t ht => (hB.2.2.2.1 t ht).1) (r := r) (by omega)
  obtain ⟨r', e3, e4, e5⟩ := e2.1 h1
  cases hc.symm.trans e3
  exact ⟨a, e1, e4, e5⟩
theorem xarrw {G : XG} {h : XH} {H : Heap} (hH : xHR G h H) (hB : xBase G) {r : Int} {t : Nat} (ht : xtg h r = t) (h1 : 100 ≤ t) (h2 : t < 200) : ∃ (a : Nat) (cell : Cell), xadr G r = .ref a ∧ 0 ≤ xln h r ∧ xln h r ≤ 2147483647 ∧ H[a]? = some cell ∧ (xaok t = true → (gs G).isArrayOf cell (xaft t)) ∧ (t ≠ 112 → cell.cls = gA G t) ∧ (cell.vm ≠ .unknown ∧ cell.vm.isStatics = false) ∧ ((xln h r).toNat ≤ cell.slots.size ∧ cell.slots.size.toInt32 = Int32.ofNat (xln h r).toNat ∧ ∀ j : Nat, j < (xln h r).toNat → cell.slots[j]? = some (xcv G (xaty t, xpl h r (j : Int)))) ∧ ∀ j : Nat, (j : Int) < xln h r → xok (xaty t, xpl h r (j : Int)) := by
  subst ht
  obtain ⟨a, e1, e2, -⟩ := hH.atw (fun t ht => (hB.2.2.2.1 t ht).1) (r := r) (by omega)
  obtain ⟨e3, e4, ⟨cell, e5, k1, k2, k3, ks⟩, e6⟩ := e2.2 h1 h2
  exact ⟨a, cell, e1, e3, e4, e5, k1, k2, k3, ks, e6⟩
/-- a field is read -/
theorem xr_getf {G : XG} {M : XM} {d pc : Nat} {L S : List XV} {h : XH} {Q : XV → XH → Prop} {X : Nat → XH → Prop} {a : Int} {ci k index N v9 : Nat} {ref C : String} {T : u_T} (hI : decode M.2.1 pc = .ok (.getfield index, 3)) (hw : Cond.fieldLink M.1.cls index ref (T k).2.1 (T k).2.2.1 ∈ lw_tbl) (hc : xCL[ci]? = some (C, T, N)) (hin : ∀ w ∈ u_ws C T N, w ∈ lw_tbl) (hs : ref = (T k).1 ∨ Cond.sameField ref (T k).1 (T k).2.1 (T k).2.2.1 ∈ lw_tbl) (hk : k < N) (hci : ci < 100) (hv : xsty (xfty ci k) = v9)
    (ht : xtg h a = ci) (k9 : xok (v9, xpl h a (k : Int)) → xwp G M d (pc + 3) L ((v9, xpl h a (k : Int)) :: S) h Q X) : xwp G M d pc L (xR a :: S) h Q X := by
  intro p e R s m args below meth c H locs ls F hH hL hS hz hy hlo
  obtain ⟨q, e1, ⟨cell, g1, g2, g3, g4⟩, e3⟩ := xcellw hH (F.2.2.2.2.2.2.2.2.2.2.2.2.2.2.2) ht hc hci
  obtain ⟨hS2, hfc, kC, hkC, hkind⟩ := F.known hc
  obtain ⟨cf, kf, fi, f, hi, hsl⟩ := hS2 k hk
  have hlay := u_lays (ws := u_ws C T N) (args := args) (s := s) (fun w hw2 => F.word (hin w hw2) (by obtain ⟨j, -, rfl⟩ := List.mem_map.mp hw2; unfold u_lay; split <;> rfl)) (fun w hw2 => hw2) hk
  have hv2 : cell.slots[f.slot]? = some (xcv G (v9, xpl h a (k : Int))) := by
    rw [hsl, g4 k hk, ← hv, xcv_sty]
  have hsame : s.fieldFound? ref (T k).2.1 (T k).2.2.1 = some (cf, kf, fi, f) := by
    rcases hs with hs | hs
    · rw [hs]; exact hi
    · exact u_same (F.word hs rfl) _ hi
  show W p (gl G) e R s m args below meth c H locs _ _ _ (F0 m pc ls (xadr G a :: S.map (xcv G)))
  rw [e1]
  have hok : xok (v9, xpl h a (k : Int)) := by rw [← hv]; exact xok_sty (e3 k hk)
  exact W.getf F.1 F.2.1 F.2.2.2.2.2.1 (F.word hw rfl) hsame (u_facts hfc hkC hlay hi).1 g1 g3.1 hv2 rfl rfl hI (k9 hok p e R s m args below meth c H locs ls F hH hL (xac hok (xal1 hS).2) hz hy hlo)
theorem xr_getfN {G : XG} {M : XM} {d pc : Nat} {L S : List XV} {h : XH} {Q : XV → XH → Prop} {X : Nat → XH → Prop} {a : Int} {ci k index N v9 : Nat} {ref C : String} {T : u_T} {host : String} (hI : decode M.2.1 pc = .ok (.getfield index, 3)) (hw : Cond.fieldLinkNest M.1.cls index ref (T k).2.1 (T k).2.2.1 host ∈ lw_tbl) (hc : xCL[ci]? = some (C, T, N)) (hin : ∀ w ∈ u_ws C T N, w ∈ lw_tbl) (hs : ref = (T k).1 ∨ Cond.sameField ref (T k).1 (T k).2.1 (T k).2.2.1 ∈ lw_tbl) (hk : k < N) (hci : ci < 100) (hv : xsty (xfty ci k) = v9)
    (ht : xtg h a = ci) (k9 : xok (v9, xpl h a (k : Int)) → xwp G M d (pc + 3) L ((v9, xpl h a (k : Int)) :: S) h Q X) : xwp G M d pc L (xR a :: S) h Q X := by
  intro p e R s m args below meth c H locs ls F hH hL hS hz hy hlo
  obtain ⟨A0, hbw⟩ := F.2.2.2.2.2.2.2.2.2.2.2.2.2.2.2.2.1
  obtain ⟨q, e1, ⟨cell, g1, g2, g3, g4⟩, e3⟩ := xcellw hH (F.2.2.2.2.2.2.2.2.2.2.2.2.2.2.2) ht hc hci
  obtain ⟨hS2, hfc, kC, hkC, hkind⟩ := F.known hc
  obtain ⟨cf, kf, fi, f, hi, hsl⟩ := hS2 k hk
  have hlay := u_lays (ws := u_ws C T N) (args := args) (s := s) (fun w hw2 => F.word (hin w hw2) (by obtain ⟨j, -, rfl⟩ := List.mem_map.mp hw2; unfold u_lay; split <;> rfl)) (fun w hw2 => hw2) hk
  have hv2 : cell.slots[f.slot]? = some (xcv G (v9, xpl h a (k : Int))) := by
    rw [hsl, g4 k hk, ← hv, xcv_sty]
  have hsame : s.fieldFound? ref (T k).2.1 (T k).2.2.1 = some (cf, kf, fi, f) := by
    rcases hs with hs | hs
    · rw [hs]; exact hi
    · exact u_same (F.word hs rfl) _ hi
  show W p (gl G) e R s m args below meth c H locs _ _ _ (F0 m pc ls (xadr G a :: S.map (xcv G)))
  rw [e1]
  have hok : xok (v9, xpl h a (k : Int)) := by rw [← hv]; exact xok_sty (e3 k hk)
  exact va_Wgetf F.1 F.2.1 F.2.2.2.2.2.1 (va_Nw.use rfl (va_Nw.warmF F.2.2.2.2.2.2.1 (va_Nw.of rfl (hbw _ hw)))) hsame (u_facts hfc hkC hlay hi).1 g1 g3.1 hv2 rfl rfl hI (k9 hok p e R s m args below meth c H locs ls F hH hL (xac hok (xal1 hS).2) hz hy hlo)
/-- what may be stored as it is -/
def xfit (t : Nat) (ty : FieldType) : Prop := ∀ (G : XG) (x : Int), xok (t, x) → narrow ty (xcv G (t, x)) = xcv G (t, x) ∧ fits ty (xcv G (t, x)) = true
theorem xfit_i : xfit 0 .int := fun G x _ => ⟨rfl, rfl⟩
theorem xfit_l : xfit 1 .long := fun G x _ => ⟨rfl, rfl⟩
theorem xfit_d : xfit 3 .double := fun G x _ => ⟨rfl, rfl⟩
theorem xfit_z : xfit 4 .boolean := fun G x h => by
  have h1 : 0 ≤ x ∧ x ≤ 1 := h
  rcases (show x = 0 ∨ x = 1 by omega) with e | e <;> subst e <;> exact ⟨rfl, rfl⟩
theorem xfit_o (C : String) : xfit 2 (.object C) := fun G x _ => by
  show narrow (.object C) (xadr G x) = xadr G x ∧ fits (.object C) (xadr G x) = true
  rcases xadr_cases G x with ⟨q, -, e⟩ | ⟨-, e⟩ <;> rw [e] <;> exact ⟨rfl, rfl⟩
theorem xfit_a (t : FieldType) : xfit 2 (.array t) := fun G x _ => by
  show narrow (.array t) (xadr G x) = xadr G x ∧ fits (.array t) (xadr G x) = true
  rcases xadr_cases G x with ⟨q, -, e⟩ | ⟨-, e⟩ <;> rw [e] <;> exact ⟨rfl, rfl⟩
theorem x_put {G : XG} {h : XH} {H H1 : Heap} {M : XM} {d : Nat} {p : Program} {e : Env} {R : Room} {s : State} {m : MethodId} {args : Array Value} {meth : Method} {c : Code} (F : xFx G M d p e R s m args meth c) {a : Int} {ci k N : Nat} {C : String} {T : u_T} {v : Int} {cell : Cell} (hH : xHR G h H) (ha : 0 ≤ a) (ht : xtg h a = ci) (hci : ci < 100) (hc : xCL[ci]? = some (C, T, N)) (hk : k < N)
    (hap : ∀ x y, x < N → y < N → x ≠ y → (gI G ci) x ≠ (gI G ci) y) (hok : xok (xfty ci k, v)) (hok2 : ∀ j : Nat, j < N → xok (xfty ci j, xpl h a (j : Int)))
    (g2 : cell.cls = gC G ci) (g3 : cell.vm = .none) (g4 : ∀ j, j < N → cell.slots[gI G ci j]? = some (xcv G (xfty ci j, xpl h a (j : Int))))
    (e1 : H1[gB G + a.toNat]? = some (cell.setSlot (gI G ci k) (xcv G (xfty ci k, v)))) (z : H1.size = H.size) (oq : ∀ q : Nat, q ≠ gB G + a.toNat → H1[q]? = H[q]?) (hs : xtsl H1 ≤ xtsl H) : xHR G (xst h a (k : Int) v) H1 := by
  refine hH.upd ha z oq hs fun _ => ⟨fun _ => ⟨(C, T, N), by rw [ht]; exact hc, ?_, ?_⟩, fun q _ => by omega⟩
  · rw [ht]
    refine ⟨_, e1, g2, g3, fun j hj => ?_⟩
    rw [t_set g4 hap hk _ j hj]
    unfold updV
    dsimp only
    rw [xpl_st]
    by_cases q : j = k
    · subst q; rw [if_pos rfl, if_pos ⟨rfl, rfl⟩]
    · rw [if_neg q, if_neg (fun z => q (by omega))]
  · intro j hj
    rw [ht, xpl_st]
    by_cases q : j = k
    · subst q; rw [if_pos ⟨rfl, rfl⟩]; exact hok
    · rw [if_neg (fun z => q (by omega))]; exact hok2 j hj
theorem xr_putf {G : XG} {M : XM} {d pc : Nat} {L S : List XV} {h : XH} {Q : XV → XH → Prop} {X : Nat → XH → Prop} {a v : Int} {ci k index N v9 : Nat} {ref C : String} {T : u_T} {tF : Nat → FieldType} (hI : decode M.2.1 pc = .ok (.putfield index, 3)) (hw : Cond.fieldLink M.1.cls index ref (T k).2.1 (T k).2.2.1 ∈ lw_tbl) (hc : xCL[ci]? = some (C, T, N)) (hin : ∀ w ∈ u_ws C T N, w ∈ lw_tbl) (htF : ∀ k, k < N → parseFieldDescriptor (T k).2.2.1 = some (tF k)) (hnm : ∀ a, a < N → ∀ b, b < N → a ≠ b → (T a).2.1 ≠ (T b).2.1) (hs : ref = (T k).1 ∨ Cond.sameField ref (T k).1 (T k).2.1 (T k).2.2.1 ∈ lw_tbl) (hk : k < N) (hci : ci < 100) (hv : xsty (xfty ci k) = v9) (hfit : xfit (xfty ci k) (tF k)) (hfin : (T k).2.2.2 = false) 
    (ht : xtg h a = ci) (ha : 0 ≤ a) (hok : xok (v9, v) → xok (xfty ci k, v)) (k9 : xwp G M d (pc + 3) L S (xst h a (k : Int) v) Q X) : xwp G M d pc L ((v9, v) :: xR a :: S) h Q X := by
  intro p e R s m args below meth c H locs ls F hH hL hS hz hy hlo
  obtain ⟨q, e1, ⟨cell, g1, g2, g3, g4⟩, e3⟩ := xcell hH ha ht hc hci
  have hkn := F.known hc
  obtain ⟨hS2, hfc, kC, hkC, hkind⟩ := hkn
  obtain ⟨cf, kf, fi, f, hi, hsl⟩ := hS2 k hk
  have hts2 : ∀ w ∈ u_ws C T N, w.before args s = true := fun w hw2 => F.word (hin w hw2) (by obtain ⟨j, -, rfl⟩ := List.mem_map.mp hw2; unfold u_lay; split <;> rfl)
  have hlay := u_lays (ws := u_ws C T N) (args := args) (s := s) hts2 (fun w hw2 => hw2) hk
  have hap := va_apart (own := C) (D := (gC G, gI G)) (cl := xCL) (tys := []) hts2 (fun w hw2 => hw2) tF htF hnm (⟨fun i q hq => F.known hq, fun i q hq => by simp at hq⟩ : va_K (gC G, gI G) xCL [] s) hc
  have hsame : s.fieldFound? ref (T k).2.1 (T k).2.2.1 = some (cf, kf, fi, f) := by
    rcases hs with hs | hs
    · rw [hs]; exact hi
    · exact u_same (F.word hs rfl) _ hi
  have hokv : xok (xfty ci k, v) := hok (xal1 hS).1
  obtain ⟨hn, hf⟩ := hfit G v hokv
  have hl1 := hts2 _ (u_in_lay hk)
  unfold u_lay at hl1
  rw [if_neg (by rw [hfin]; decide)] at hl1
  have h6 := u_store hfc hkC hkind hl1 hi (htF k hk) hn hf
  rw [hH.adr ha] at e1
  cases e1
  have hg0 := (xal1 (xal1 hS).2).2
  rw [show F0 m pc ls (List.map (xcv G) ((v9, v) :: xR a :: S)) = F0 m pc ls (xcv G (xfty ci k, v) :: .ref (gB G + a.toNat) :: S.map (xcv G)) from by simp only [List.map_cons]; rw [← hv, xcv_sty]; rw [show xcv G (xR a) = xadr G a from rfl, hH.adr ha]]
  refine W.putK F.1 F.2.1 (f := f) ⟨F.2.2.2.2.2.1, F.word hw rfl, ⟨_, _, _, hsame⟩, (u_facts hfc hkC hlay hi).1⟩ (by rw [g2]; exact h6) g1 g3 (by rw [hsl]; exact k2_hasslot (g4 k hk)) rfl rfl hI fun H1 d1 d2 d3 => ?_
  rw [hsl] at d1 ⊢
  refine x_know fun y1 y2 y3 y4 => x_tight ?_
  have hs1 : xtsl H1 ≤ xtsl H := by omega
  exact k9 p e R s m args below meth c H1 _ ls F (x_put F hH ha ht hci hc hk hap hokv e3 g2 g3 g4 d1 d2 d3 hs1) hL hg0 y1 y3 (fun z hz2 => by
    rcases List.mem_append.mp hz2 with z1 | z1
    · exact hlo z z1
    · rw [List.mem_singleton.mp z1]; exact Nat.le_add_right _ _)
theorem xr_putfF {G : XG} {M : XM} {d pc : Nat} {L S : List XV} {h : XH} {Q : XV → XH → Prop} {X : Nat → XH → Prop} {a v : Int} {ci k index N v9 : Nat} {ref C : String} {T : u_T} {tF : Nat → FieldType} (hI : decode M.2.1 pc = .ok (.putfield index, 3)) (hw : Cond.fieldLink M.1.cls index ref (T k).2.1 (T k).2.2.1 ∈ lw_tbl) (hc : xCL[ci]? = some (C, T, N)) (hin : ∀ w ∈ u_ws C T N, w ∈ lw_tbl) (htF : ∀ k, k < N → parseFieldDescriptor (T k).2.2.1 = some (tF k)) (hnm : ∀ a, a < N → ∀ b, b < N → a ≠ b → (T a).2.1 ≠ (T b).2.1) (hs : ref = (T k).1 ∨ Cond.sameField ref (T k).1 (T k).2.1 (T k).2.2.1 ∈ lw_tbl) (hk : k < N) (hci : ci < 100) (hv : xsty (xfty ci k) = v9) (hfit : xfit (xfty ci k) (tF k)) (hfin : (T k).2.2.2 = true) (hin2 : M.1.name = "<init>") (hdecl : (T k).1 = M.1.cls) 
    (ht : xtg h a = ci) (ha : 0 ≤ a) (hok : xok (v9, v) → xok (xfty ci k, v)) (k9 : xwp G M d (pc + 3) L S (xst h a (k : Int) v) Q X) : xwp G M d pc L ((v9, v) :: xR a :: S) h Q X := by
  intro p e R s m args below meth c H locs ls F hH hL hS hz hy hlo
  obtain ⟨q, e1, ⟨cell, g1, g2, g3, g4⟩, e3⟩ := xcell hH ha ht hc hci
  have hkn := F.known hc
  obtain ⟨hS2, hfc, kC, hkC, hkind⟩ := hkn
  obtain ⟨cf, kf, fi, f, hi, hsl⟩ := hS2 k hk
  have hts2 : ∀ w ∈ u_ws C T N, w.before args s = true := fun w hw2 => F.word (hin w hw2) (by obtain ⟨j, -, rfl⟩ := List.mem_map.mp hw2; unfold u_lay; split <;> rfl)
  have hlay := u_lays (ws := u_ws C T N) (args := args) (s := s) hts2 (fun w hw2 => hw2) hk
  have hap := va_apart (own := C) (D := (gC G, gI G)) (cl := xCL) (tys := []) hts2 (fun w hw2 => hw2) tF htF hnm (⟨fun i q hq => F.known hq, fun i q hq => by simp at hq⟩ : va_K (gC G, gI G) xCL [] s) hc
  have hsame : s.fieldFound? ref (T k).2.1 (T k).2.2.1 = some (cf, kf, fi, f) := by
    rcases hs with hs | hs
    · rw [hs]; exact hi
    · exact u_same (F.word hs rfl) _ hi
  have hokv : xok (xfty ci k, v) := hok (xal1 hS).1
  obtain ⟨hn, hf⟩ := hfit G v hokv
  have hl1 := hts2 _ (u_in_lay hk)
  unfold u_lay at hl1
  rw [if_pos hfin] at hl1
  have hcf : m.cls = cf := by
    obtain ⟨_, _, c', _, _, _, -, -, hf', -, -, -, hown2, -⟩ := Cond.laysFinal_spec hl1
    have e1 : c' = cf := by have := hi.symm.trans hf'; simp at this; exact this.1.symm
    rw [hdecl] at hown2
    rw [← e1]; exact Option.some.inj (F.2.2.2.2.2.1.symm.trans hown2)
  have h6 := u_fits hfc hkC hkind (Or.inr hl1) hi (htF k hk) hn hf
  rw [hH.adr ha] at e1
  cases e1
  have hg0 := (xal1 (xal1 hS).2).2
  rw [show F0 m pc ls (List.map (xcv G) ((v9, v) :: xR a :: S)) = F0 m pc ls (xcv G (xfty ci k, v) :: .ref (gB G + a.toNat) :: S.map (xcv G)) from by simp only [List.map_cons]; rw [← hv, xcv_sty]; rw [show xcv G (xR a) = xadr G a from rfl, hH.adr ha]]
  refine W.putFinK F.1 F.2.1 F.2.2.2.2.2.1 (F.word hw rfl) hsame (u_facts hfc hkC hlay hi).1 hcf (F.2.2.2.2.2.2.2.2.2.2.2.2.2.2.1.trans hin2) (by rw [g2]; exact h6) g1 g3 (by rw [hsl]; exact k2_hasslot (g4 k hk)) rfl rfl hI fun H1 d1 d2 d3 => ?_
  rw [hsl] at d1 ⊢
  refine x_know fun y1 y2 y3 y4 => x_tight ?_
  have hs1 : xtsl H1 ≤ xtsl H := by omega
  exact k9 p e R s m args below meth c H1 _ ls F (x_put F hH ha ht hci hc hk hap hokv e3 g2 g3 g4 d1 d2 d3 hs1) hL hg0 y1 y3 (fun z hz2 => by
    rcases List.mem_append.mp hz2 with z1 | z1
    · exact hlo z z1
    · rw [List.mem_singleton.mp z1]; exact Nat.le_add_right _ _)
theorem xr_putfN {G : XG} {M : XM} {d pc : Nat} {L S : List XV} {h : XH} {Q : XV → XH → Prop} {X : Nat → XH → Prop} {a v : Int} {ci k index N v9 : Nat} {ref C : String} {T : u_T} {tF : Nat → FieldType} {host : String} (hI : decode M.2.1 pc = .ok (.putfield index, 3)) (hw : Cond.fieldLinkNest M.1.cls index ref (T k).2.1 (T k).2.2.1 host ∈ lw_tbl) (hc : xCL[ci]? = some (C, T, N)) (hin : ∀ w ∈ u_ws C T N, w ∈ lw_tbl) (htF : ∀ k, k < N → parseFieldDescriptor (T k).2.2.1 = some (tF k)) (hnm : ∀ a, a < N → ∀ b, b < N → a ≠ b → (T a).2.1 ≠ (T b).2.1) (hs : ref = (T k).1 ∨ Cond.sameField ref (T k).1 (T k).2.1 (T k).2.2.1 ∈ lw_tbl) (hk : k < N) (hci : ci < 100) (hv : xsty (xfty ci k) = v9) (hfit : xfit (xfty ci k) (tF k)) (hfin : (T k).2.2.2 = false) 
    (ht : xtg h a = ci) (ha : 0 ≤ a) (hok : xok (v9, v) → xok (xfty ci k, v)) (k9 : xwp G M d (pc + 3) L S (xst h a (k : Int) v) Q X) : xwp G M d pc L ((v9, v) :: xR a :: S) h Q X := by
  intro p e R s m args below meth c H locs ls F hH hL hS hz hy hlo
  obtain ⟨A0, hbw⟩ := F.2.2.2.2.2.2.2.2.2.2.2.2.2.2.2.2.1
  obtain ⟨q, e1, ⟨cell, g1, g2, g3, g4⟩, e3⟩ := xcell hH ha ht hc hci
  have hkn := F.known hc
  obtain ⟨hS2, hfc, kC, hkC, hkind⟩ := hkn
  obtain ⟨cf, kf, fi, f, hi, hsl⟩ := hS2 k hk
  have hts2 : ∀ w ∈ u_ws C T N, w.before args s = true := fun w hw2 => F.word (hin w hw2) (by obtain ⟨j, -, rfl⟩ := List.mem_map.mp hw2; unfold u_lay; split <;> rfl)
  have hlay := u_lays (ws := u_ws C T N) (args := args) (s := s) hts2 (fun w hw2 => hw2) hk
  have hap := va_apart (own := C) (D := (gC G, gI G)) (cl := xCL) (tys := []) hts2 (fun w hw2 => hw2) tF htF hnm (⟨fun i q hq => F.known hq, fun i q hq => by simp at hq⟩ : va_K (gC G, gI G) xCL [] s) hc
  have hsame : s.fieldFound? ref (T k).2.1 (T k).2.2.1 = some (cf, kf, fi, f) := by
    rcases hs with hs | hs
    · rw [hs]; exact hi
    · exact u_same (F.word hs rfl) _ hi
  have hokv : xok (xfty ci k, v) := hok (xal1 hS).1
  obtain ⟨hn, hf⟩ := hfit G v hokv
  have hl1 := hts2 _ (u_in_lay hk)
  unfold u_lay at hl1
  rw [if_neg (by rw [hfin]; decide)] at hl1
  have h6 := u_store hfc hkC hkind hl1 hi (htF k hk) hn hf
  rw [hH.adr ha] at e1
  cases e1
  have hg0 := (xal1 (xal1 hS).2).2
  rw [show F0 m pc ls (List.map (xcv G) ((v9, v) :: xR a :: S)) = F0 m pc ls (xcv G (xfty ci k, v) :: .ref (gB G + a.toNat) :: S.map (xcv G)) from by simp only [List.map_cons]; rw [← hv, xcv_sty]; rw [show xcv G (xR a) = xadr G a from rfl, hH.adr ha]]
  refine va_WputK F.1 F.2.1 (f := f) F.2.2.2.2.2.1 (va_Nw.use rfl (va_Nw.warmF F.2.2.2.2.2.2.1 (va_Nw.of rfl (hbw _ hw)))) hsame (u_facts hfc hkC hlay hi).1 (by rw [g2]; exact h6) g1 g3 (by rw [hsl]; exact k2_hasslot (g4 k hk)) rfl rfl hI fun H1 d1 d2 d3 => ?_
  rw [hsl] at d1 ⊢
  refine x_know fun y1 y2 y3 y4 => x_tight ?_
  have hs1 : xtsl H1 ≤ xtsl H := by omega
  exact k9 p e R s m args below meth c H1 _ ls F (x_put F hH ha ht hci hc hk hap hokv e3 g2 g3 g4 d1 d2 d3 hs1) hL hg0 y1 y3 (fun z hz2 => by
    rcases List.mem_append.mp hz2 with z1 | z1
    · exact hlo z z1
    · rw [List.mem_singleton.mp z1]; exact Nat.le_add_right _ _)
/-! arrays -/
theorem xr_iaload {G : XG} {M : XM} {d pc : Nat} {L S : List XV} {h : XH} {Q : XV → XH → Prop} {X : Nat → XH → Prop} {a i : Int} (hI : decode M.2.1 pc = .ok (.iaload, 1)) (ht : xtg h a = 100) (h0 : 0 ≤ i) (hi : i < xln h a) (k9 : xok (0, xpl h a i) → xwp G M d (pc + 1) L ((0, xpl h a i) :: S) h Q X) : xwp G M d pc L (xI i :: xR a :: S) h Q X := by
  intro p e R s m args below meth c H locs ls F hH hL hS hz hy hlo
  obtain ⟨q, cell, e1, e2, e3, e4, k1, k2, k3, ks, e5⟩ := xarrw hH (F.2.2.2.2.2.2.2.2.2.2.2.2.2.2.2) ht (by decide) (by decide)
  have hir : xiR i := ⟨by omega, by omega⟩
  have hin := xi_in h0 hi e3
  have hok : xok (0, xpl h a i) := by
    have := e5 i.toNat (by omega)
    rw [show ((i.toNat : Nat) : Int) = i by omega] at this
    exact xok_sty this
  show W p (gl G) e R s m args below meth c H locs _ _ _ (F0 m pc ls (.int (Int32.ofInt i) :: xadr G a :: S.map (xcv G)))
  rw [e1]
  refine W.iald (v := xcv G (0, xpl h a i)) F.1 F.2.1 e4 (State.isArrayOf_alike F.2.2.2.2.2.2.1.alike (k1 rfl)) k3.1 (fun z => hin (z.imp id (fun w => Nat.le_trans ks.1 w))) ?_ rfl rfl hI (k9 hok p e R s m args below meth c H locs ls F hH hL (xac hok (xal1 (xal1 hS).2).2) hz hy hlo)
  rw [xi_clamp hir, ks.2.2 _ (by omega)]
  congr 1
  rw [show ((i.toNat : Nat) : Int) = i by omega]
  exact (xcv_sty G (xaty 100) _).symm
theorem xr_laload {G : XG} {M : XM} {d pc : Nat} {L S : List XV} {h : XH} {Q : XV → XH → Prop} {X : Nat → XH → Prop} {a i : Int} (hI : decode M.2.1 pc = .ok (.laload, 1)) (ht : xtg h a = 101) (h0 : 0 ≤ i) (hi : i < xln h a) (k9 : xok (1, xpl h a i) → xwp G M d (pc + 1) L ((1, xpl h a i) :: S) h Q X) : xwp G M d pc L (xI i :: xR a :: S) h Q X := by
  intro p e R s m args below meth c H locs ls F hH hL hS hz hy hlo
  obtain ⟨q, cell, e1, e2, e3, e4, k1, k2, k3, ks, e5⟩ := xarrw hH (F.2.2.2.2.2.2.2.2.2.2.2.2.2.2.2) ht (by decide) (by decide)
  have hir : xiR i := ⟨by omega, by omega⟩
  have hin := xi_in h0 hi e3
  have hok : xok (1, xpl h a i) := by
    have := e5 i.toNat (by omega)
    rw [show ((i.toNat : Nat) : Int) = i by omega] at this
    exact xok_sty this
  show W p (gl G) e R s m args below meth c H locs _ _ _ (F0 m pc ls (.int (Int32.ofInt i) :: xadr G a :: S.map (xcv G)))
  rw [e1]
  refine W.lald (v := xcv G (1, xpl h a i)) F.1 F.2.1 e4 (State.isArrayOf_alike F.2.2.2.2.2.2.1.alike (k1 rfl)) k3.1 (fun z => hin (z.imp id (fun w => Nat.le_trans ks.1 w))) ?_ rfl rfl hI (k9 hok p e R s m args below meth c H locs ls F hH hL (xac hok (xal1 (xal1 hS).2).2) hz hy hlo)
  rw [xi_clamp hir, ks.2.2 _ (by omega)]
  congr 1
  rw [show ((i.toNat : Nat) : Int) = i by omega]
  exact (xcv_sty G (xaty 101) _).symm
theorem xr_baloadZ {G : XG} {M : XM} {d pc : Nat} {L S : List XV} {h : XH} {Q : XV → XH → Prop} {X : Nat → XH → Prop} {a i : Int} (hI : decode M.2.1 pc = .ok (.baload, 1)) (ht : xtg h a = 102) (h0 : 0 ≤ i) (hi : i < xln h a) (k9 : xok (0, xpl h a i) → xwp G M d (pc + 1) L ((0, xpl h a i) :: S) h Q X) : xwp G M d pc L (xI i :: xR a :: S) h Q X := by
  intro p e R s m args below meth c H locs ls F hH hL hS hz hy hlo
  obtain ⟨q, cell, e1, e2, e3, e4, k1, k2, k3, ks, e5⟩ := xarrw hH (F.2.2.2.2.2.2.2.2.2.2.2.2.2.2.2) ht (by decide) (by decide)
  have hir : xiR i := ⟨by omega, by omega⟩
  have hin := xi_in h0 hi e3
  have hok : xok (0, xpl h a i) := by
    have := e5 i.toNat (by omega)
    rw [show ((i.toNat : Nat) : Int) = i by omega] at this
    exact xok_sty this
  show W p (gl G) e R s m args below meth c H locs _ _ _ (F0 m pc ls (.int (Int32.ofInt i) :: xadr G a :: S.map (xcv G)))
  rw [e1]
  refine W.zald (v := xcv G (0, xpl h a i)) F.1 F.2.1 e4 (State.isArrayOf_alike F.2.2.2.2.2.2.1.alike (k1 rfl)) k3.1 (fun z => hin (z.imp id (fun w => Nat.le_trans ks.1 w))) ?_ rfl rfl hI (k9 hok p e R s m args below meth c H locs ls F hH hL (xac hok (xal1 (xal1 hS).2).2) hz hy hlo)
  rw [xi_clamp hir, ks.2.2 _ (by omega)]
  congr 1
  rw [show ((i.toNat : Nat) : Int) = i by omega]
  exact (xcv_sty G (xaty 102) _).symm
theorem xr_baloadB {G : XG} {M : XM} {d pc : Nat} {L S : List XV} {h : XH} {Q : XV → XH → Prop} {X : Nat → XH → Prop} {a i : Int} (hI : decode M.2.1 pc = .ok (.baload, 1)) (ht : xtg h a = 103) (h0 : 0 ≤ i) (hi : i < xln h a) (k9 : xok (0, xpl h a i) → xwp G M d (pc + 1) L ((0, xpl h a i) :: S) h Q X) : xwp G M d pc L (xI i :: xR a :: S) h Q X := by
  intro p e R s m args below meth c H locs ls F hH hL hS hz hy hlo
  obtain ⟨q, cell, e1, e2, e3, e4, k1, k2, k3, ks, e5⟩ := xarrw hH (F.2.2.2.2.2.2.2.2.2.2.2.2.2.2.2) ht (by decide) (by decide)
  have hir : xiR i := ⟨by omega, by omega⟩
  have hin := xi_in h0 hi e3
  have hok : xok (0, xpl h a i) := by
    have := e5 i.toNat (by omega)
    rw [show ((i.toNat : Nat) : Int) = i by omega] at this
    exact xok_sty this
  show W p (gl G) e R s m args below meth c H locs _ _ _ (F0 m pc ls (.int (Int32.ofInt i) :: xadr G a :: S.map (xcv G)))
  rw [e1]
  refine W.bald (v := xcv G (0, xpl h a i)) F.1 F.2.1 e4 (State.isArrayOf_alike F.2.2.2.2.2.2.1.alike (k1 rfl)) k3.1 (fun z => hin (z.imp id (fun w => Nat.le_trans ks.1 w))) ?_ rfl rfl hI (k9 hok p e R s m args below meth c H locs ls F hH hL (xac hok (xal1 (xal1 hS).2).2) hz hy hlo)
  rw [xi_clamp hir, ks.2.2 _ (by omega)]
  congr 1
  rw [show ((i.toNat : Nat) : Int) = i by omega]
  exact (xcv_sty G (xaty 103) _).symm
theorem xr_daload {G : XG} {M : XM} {d pc : Nat} {L S : List XV} {h : XH} {Q : XV → XH → Prop} {X : Nat → XH → Prop} {a i : Int} (hI : decode M.2.1 pc = .ok (.daload, 1)) (ht : xtg h a = 105) (h0 : 0 ≤ i) (hi : i < xln h a) (k9 : xok (3, xpl h a i) → xwp G M d (pc + 1) L ((3, xpl h a i) :: S) h Q X) : xwp G M d pc L (xI i :: xR a :: S) h Q X := by
  intro p e R s m args below meth c H locs ls F hH hL hS hz hy hlo
  obtain ⟨q, cell, e1, e2, e3, e4, k1, k2, k3, ks, e5⟩ := xarrw hH (F.2.2.2.2.2.2.2.2.2.2.2.2.2.2.2) ht (by decide) (by decide)
  have hir : xiR i := ⟨by omega, by omega⟩
  have hin := xi_in h0 hi e3
  have hok : xok (3, xpl h a i) := by
    have := e5 i.toNat (by omega)
    rw [show ((i.toNat : Nat) : Int) = i by omega] at this
    exact xok_sty this
  show W p (gl G) e R s m args below meth c H locs _ _ _ (F0 m pc ls (.int (Int32.ofInt i) :: xadr G a :: S.map (xcv G)))
  rw [e1]
  refine W.dald (v := xcv G (3, xpl h a i)) F.1 F.2.1 e4 (State.isArrayOf_alike F.2.2.2.2.2.2.1.alike (k1 rfl)) k3.1 (fun z => hin (z.imp id (fun w => Nat.le_trans ks.1 w))) ?_ rfl rfl hI (k9 hok p e R s m args below meth c H locs ls F hH hL (xac hok (xal1 (xal1 hS).2).2) hz hy hlo)
  rw [xi_clamp hir, ks.2.2 _ (by omega)]
  congr 1
  rw [show ((i.toNat : Nat) : Int) = i by omega]
  exact (xcv_sty G (xaty 105) _).symm
theorem xaft_ref (t : Nat) (h1 : 110 ≤ t) : (xaft t).isReference = true ∧ xaty t = 2 := by
  match t, h1 with
  | 110, _ => exact ⟨rfl, rfl⟩
  | 111, _ => exact ⟨rfl, rfl⟩
  | n + 112, _ => exact ⟨rfl, rfl⟩
theorem xr_aaload {G : XG} {M : XM} {d pc : Nat} {L S : List XV} {h : XH} {Q : XV → XH → Prop} {X : Nat → XH → Prop} {a i : Int} {t : Nat} (hI : decode M.2.1 pc = .ok (.aaload, 1)) (ht : xtg h a = t) (h1 : 110 ≤ t) (h2 : xaok t = true) (h3 : t < 200) (h0 : 0 ≤ i) (hi : i < xln h a) (k9 : xwp G M d (pc + 1) L (xR (xpl h a i) :: S) h Q X) : xwp G M d pc L (xI i :: xR a :: S) h Q X := by
  intro p e R s m args below meth c H locs ls F hH hL hS hz hy hlo
  obtain ⟨q, cell, e1, e2, e3, e4, k1, k2, k3, ks, e5⟩ := xarrw hH (F.2.2.2.2.2.2.2.2.2.2.2.2.2.2.2) ht (by omega) h3
  obtain ⟨f1, f2⟩ := xaft_ref t h1
  have hir : xiR i := ⟨by omega, by omega⟩
  have hin := xi_in h0 hi e3
  show W p (gl G) e R s m args below meth c H locs _ _ _ (F0 m pc ls (.int (Int32.ofInt i) :: xadr G a :: S.map (xcv G)))
  rw [e1]
  refine W.aald (v := xcv G (xR (xpl h a i))) F.1 F.2.1 e4 (State.isArrayOf_alike F.2.2.2.2.2.2.1.alike (k1 h2)) f1 k3.1 (fun z => hin (z.imp id (fun w => Nat.le_trans ks.1 w))) ?_ rfl rfl hI (k9 p e R s m args below meth c H locs ls F hH hL (xac (show True from trivial) (xal1 (xal1 hS).2).2) hz hy hlo)
  rw [xi_clamp hir, ks.2.2 _ (by omega)]
  congr 1
  rw [show ((i.toNat : Nat) : Int) = i by omega, f2]
theorem x_ast {G : XG} {h : XH} {H H1 : Heap} {a i v : Int} {t : Nat} (hH : xHR G h H) (ha : 0 ≤ a) (ht : xtg h a = t) (h1 : 100 ≤ t) (h2 : t < 200) (h0 : 0 ≤ i) (hi : i < xln h a) (e2 : 0 ≤ xln h a) (e3 : xln h a ≤ 2147483647) (e5 : ∀ j : Nat, (j : Int) < xln h a → xok (xaty t, xpl h a (j : Int))) (hok : xok (xaty t, v))
    (e1 : H1[gB G + a.toNat]? = some ((arrV (gA G t) (xln h a).toNat (fun j => xcv G (xaty t, xpl h a (j : Int)))).setSlot i.toNat (xcv G (xaty t, v)))) (z : H1.size = H.size) (oq : ∀ q : Nat, q ≠ gB G + a.toNat → H1[q]? = H[q]?) (hs : xtsl H1 ≤ xtsl H) : xHR G (xst h a i v) H1 := by
  refine hH.upd ha z oq hs fun _ => ⟨fun q => by omega, fun _ _ => ⟨e2, e3, ?_, ?_⟩⟩
  · rw [e1, arrV_store, ht]
    congr 2
    funext j
    unfold updV
    rw [xpl_st]
    by_cases q : j = i.toNat
    · rw [if_pos q, if_pos ⟨rfl, by omega⟩]
    · rw [if_neg q, if_neg (fun z => q (by omega))]
  · intro j hj
    rw [ht, xpl_st]
    by_cases q : (j : Int) = i
    · rw [if_pos ⟨rfl, q⟩]; exact hok
    · rw [if_neg (fun z => q z.2)]; exact e5 j hj
theorem xr_iastore {G : XG} {M : XM} {d pc : Nat} {L S : List XV} {h : XH} {Q : XV → XH → Prop} {X : Nat → XH → Prop} {a i v : Int} (hI : decode M.2.1 pc = .ok (.iastore, 1)) (ht : xtg h a = 100) (ha : 0 ≤ a) (h0 : 0 ≤ i) (hi : i < xln h a) (k9 : xwp G M d (pc + 1) L S (xst h a i v) Q X) : xwp G M d pc L ((0, v) :: xI i :: xR a :: S) h Q X := by
  intro p e R s m args below meth c H locs ls F hH hL hS hz hy hlo
  obtain ⟨q, e1, e2, e3, e4, e5⟩ := xarr hH ha ht (by decide) (by decide)
  have hir : xiR i := ⟨by omega, by omega⟩
  have hin := xi_in h0 hi e3
  rw [hH.adr ha] at e1
  cases e1
  rw [show F0 m pc ls (List.map (xcv G) ((0, v) :: xI i :: xR a :: S)) = F0 m pc ls (.int (Int32.ofInt v) :: .int (Int32.ofInt i) :: .ref (gB G + a.toNat) :: S.map (xcv G)) from by simp only [List.map_cons]; rw [show xcv G (xR a) = xadr G a from rfl, hH.adr ha]; rfl]
  refine W.iast F.1 F.2.1 e4 ((F.arr (t := 100) rfl).1 _ _) (fun z => by cases z) (by rw [arrV_size]; exact hin) rfl rfl hI fun H1 d1 d2 d3 => ?_
  rw [xi_clamp hir] at d1
  skip
  refine x_know fun y1 y2 y3 y4 => x_tight ?_
  have hs1 : xtsl H1 ≤ xtsl H := by omega
  exact k9 p e R s m args below meth c H1 _ ls F (x_ast hH ha ht (by decide) (by decide) h0 hi e2 e3 e5 (xal1 hS).1 d1 d2 d3 hs1) hL (xal1 (xal1 (xal1 hS).2).2).2 y1 y3 (fun z hz2 => by
    rcases List.mem_append.mp hz2 with z1 | z1
    · exact hlo z z1
    · rw [List.mem_singleton.mp z1]; exact Nat.le_add_right _ _)
theorem xr_lastore {G : XG} {M : XM} {d pc : Nat} {L S : List XV} {h : XH} {Q : XV → XH → Prop} {X : Nat → XH → Prop} {a i v : Int} (hI : decode M.2.1 pc = .ok (.lastore, 1)) (ht : xtg h a = 101) (ha : 0 ≤ a) (h0 : 0 ≤ i) (hi : i < xln h a) (k9 : xwp G M d (pc + 1) L S (xst h a i v) Q X) : xwp G M d pc L ((1, v) :: xI i :: xR a :: S) h Q X := by
  intro p e R s m args below meth c H locs ls F hH hL hS hz hy hlo
  obtain ⟨q, e1, e2, e3, e4, e5⟩ := xarr hH ha ht (by decide) (by decide)
  have hir : xiR i := ⟨by omega, by omega⟩
  have hin := xi_in h0 hi e3
  rw [hH.adr ha] at e1
  cases e1
  rw [show F0 m pc ls (List.map (xcv G) ((1, v) :: xI i :: xR a :: S)) = F0 m pc ls (.long (Int64.ofInt v) :: .int (Int32.ofInt i) :: .ref (gB G + a.toNat) :: S.map (xcv G)) from by simp only [List.map_cons]; rw [show xcv G (xR a) = xadr G a from rfl, hH.adr ha]; rfl]
  refine W.last F.1 F.2.1 e4 ((F.arr (t := 101) rfl).1 _ _) (fun z => by cases z) (by rw [arrV_size]; exact hin) rfl rfl hI fun H1 d1 d2 d3 => ?_
  rw [xi_clamp hir] at d1
  skip
  refine x_know fun y1 y2 y3 y4 => x_tight ?_
  have hs1 : xtsl H1 ≤ xtsl H := by omega
  exact k9 p e R s m args below meth c H1 _ ls F (x_ast hH ha ht (by decide) (by decide) h0 hi e2 e3 e5 (xal1 hS).1 d1 d2 d3 hs1) hL (xal1 (xal1 (xal1 hS).2).2).2 y1 y3 (fun z hz2 => by
    rcases List.mem_append.mp hz2 with z1 | z1
    · exact hlo z z1
    · rw [List.mem_singleton.mp z1]; exact Nat.le_add_right _ _)
theorem xr_dastore {G : XG} {M : XM} {d pc : Nat} {L S : List XV} {h : XH} {Q : XV → XH → Prop} {X : Nat → XH → Prop} {a i v : Int} (hI : decode M.2.1 pc = .ok (.dastore, 1)) (ht : xtg h a = 105) (ha : 0 ≤ a) (h0 : 0 ≤ i) (hi : i < xln h a) (k9 : xwp G M d (pc + 1) L S (xst h a i v) Q X) : xwp G M d pc L ((3, v) :: xI i :: xR a :: S) h Q X := by
  intro p e R s m args below meth c H locs ls F hH hL hS hz hy hlo
  obtain ⟨q, e1, e2, e3, e4, e5⟩ := xarr hH ha ht (by decide) (by decide)
  have hir : xiR i := ⟨by omega, by omega⟩
  have hin := xi_in h0 hi e3
  rw [hH.adr ha] at e1
  cases e1
  rw [show F0 m pc ls (List.map (xcv G) ((3, v) :: xI i :: xR a :: S)) = F0 m pc ls (.double (UInt64.ofNat v.toNat) :: .int (Int32.ofInt i) :: .ref (gB G + a.toNat) :: S.map (xcv G)) from by simp only [List.map_cons]; rw [show xcv G (xR a) = xadr G a from rfl, hH.adr ha]; rfl]
  refine W.dast F.1 F.2.1 e4 ((F.arr (t := 105) rfl).1 _ _) (fun z => by cases z) (by rw [arrV_size]; exact hin) rfl rfl hI fun H1 d1 d2 d3 => ?_
  rw [xi_clamp hir] at d1
  skip
  refine x_know fun y1 y2 y3 y4 => x_tight ?_
  have hs1 : xtsl H1 ≤ xtsl H := by omega
  exact k9 p e R s m args below meth c H1 _ ls F (x_ast hH ha ht (by decide) (by decide) h0 hi e2 e3 e5 (xal1 hS).1 d1 d2 d3 hs1) hL (xal1 (xal1 (xal1 hS).2).2).2 y1 y3 (fun z hz2 => by
    rcases List.mem_append.mp hz2 with z1 | z1
    · exact hlo z z1
    · rw [List.mem_singleton.mp z1]; exact Nat.le_add_right _ _)
theorem xr_bastoreZ {G : XG} {M : XM} {d pc : Nat} {L S : List XV} {h : XH} {Q : XV → XH → Prop} {X : Nat → XH → Prop} {a i v : Int} (hI : decode M.2.1 pc = .ok (.bastore, 1)) (ht : xtg h a = 102) (ha : 0 ≤ a) (h0 : 0 ≤ i) (hi : i < xln h a) (hb : 0 ≤ v ∧ v ≤ 1) (k9 : xwp G M d (pc + 1) L S (xst h a i v) Q X) : xwp G M d pc L ((0, v) :: xI i :: xR a :: S) h Q X := by
  intro p e R s m args below meth c H locs ls F hH hL hS hz hy hlo
  obtain ⟨q, e1, e2, e3, e4, e5⟩ := xarr hH ha ht (by decide) (by decide)
  have hir : xiR i := ⟨by omega, by omega⟩
  have hin := xi_in h0 hi e3
  rw [hH.adr ha] at e1
  cases e1
  rw [show F0 m pc ls (List.map (xcv G) ((0, v) :: xI i :: xR a :: S)) = F0 m pc ls (.int (Int32.ofInt v) :: .int (Int32.ofInt i) :: .ref (gB G + a.toNat) :: S.map (xcv G)) from by simp only [List.map_cons]; rw [show xcv G (xR a) = xadr G a from rfl, hH.adr ha]; rfl]
  refine W.zast F.1 F.2.1 e4 ((F.arr (t := 102) rfl).1 _ _) (fun z => by cases z) (by rw [arrV_size]; exact hin) rfl rfl hI fun H1 d1 d2 d3 => ?_
  rw [xi_clamp hir] at d1
  rw [show narrow .boolean (.int (Int32.ofInt v)) = .int (Int32.ofInt v) from (xfit_z G v hb).1] at d1
  refine x_know fun y1 y2 y3 y4 => x_tight ?_
  have hs1 : xtsl H1 ≤ xtsl H := by omega
  exact k9 p e R s m args below meth c H1 _ ls F (x_ast hH ha ht (by decide) (by decide) h0 hi e2 e3 e5 hb d1 d2 d3 hs1) hL (xal1 (xal1 (xal1 hS).2).2).2 y1 y3 (fun z hz2 => by
    rcases List.mem_append.mp hz2 with z1 | z1
    · exact hlo z z1
    · rw [List.mem_singleton.mp z1]; exact Nat.le_add_right _ _)
theorem xr_alen {G : XG} {M : XM} {d pc : Nat} {L S : List XV} {h : XH} {Q : XV → XH → Prop} {X : Nat → XH → Prop} {a : Int} {t : Nat} (hI : decode M.2.1 pc = .ok (.arraylength, 1)) (ht : xtg h a = t) (h1 : 100 ≤ t) (h2 : t < 200) (h3 : xaok t = true) (k9 : 0 ≤ xln h a → xln h a ≤ 2147483647 → xwp G M d (pc + 1) L (xI (xln h a) :: S) h Q X) : xwp G M d pc L (xR a :: S) h Q X := by
  intro p e R s m args below meth c H locs ls F hH hL hS hz hy hlo
  obtain ⟨q, cell, e1, e2, e3, e4, k1, k2, k3, ks, e5⟩ := xarrw hH (F.2.2.2.2.2.2.2.2.2.2.2.2.2.2.2) ht h1 h2
  show W p (gl G) e R s m args below meth c H locs _ _ _ (F0 m pc ls (xadr G a :: S.map (xcv G)))
  rw [e1]
  refine W.alen F.1 F.2.1 e4 (State.isArrayOf_alike F.2.2.2.2.2.2.1.alike (k1 h3)) (n := Int32.ofInt (xln h a)) ?_ rfl rfl hI (k9 e2 e3 p e R s m args below meth c H locs ls F hH hL (xac (show xiR (xln h a) from ⟨by omega, by omega⟩) (xal1 hS).2) hz hy hlo)
  rw [ks.2.1]
  show Int32.ofNat (xln h a).toNat = _
  have e9 : ((xln h a).toNat : Int) = xln h a := by omega
  rw [← e9, Int.toNat_natCast]
  rfl
/-- what a new object's fields hold -/
def xdef (ci : Nat) (k : Int) : Int := if xfty ci k.toNat = 2 then -1 else 0
/-- new C -/
theorem xr_new {G : XG} {M : XM} {d pc : Nat} {L S : List XV} {h : XH} {Q : XV → XH → Prop} {X : Nat → XH → Prop} {ci index N : Nat} {C : String} {T : u_T} {tF : Nat → FieldType} (hI : decode M.2.1 pc = .ok (.new index, 3)) (hw : Cond.classLink M.1.cls index C ∈ lw_tbl) (hins : Cond.instantiable C N ∈ lw_tbl) (hini : Cond.initialized C ∈ lw_tbl) (hc : xCL[ci]? = some (C, T, N)) (hin : ∀ w ∈ u_ws C T N, w ∈ lw_tbl) (htF : ∀ k, k < N → parseFieldDescriptor (T k).2.2.1 = some (tF k)) (hci : ci < 100) (hf7 : ∀ k, k < N → xfty ci k < 7)
    (hdf : ∀ (G : XG) (k : Nat), k < N → defaultValue (tF k) = xcv G (xfty ci k, xdef ci (k : Int))) (hn : xnx h + 1 ≤ xKC) (hs : xsl h + (N : Int) ≤ xKS)
    (k9 : xwp G M d (pc + 3) L (xR (xnx h) :: S) (xmk h ci (N : Int) (xdef ci)) Q X) : xwp G M d pc L S h Q X := by
  intro p e R s m args below meth c H locs ls F hH hL hS hz hy hlo
  have hkn := F.known hc
  have hC1 : (H.size - s.heap.size) + 1 ≤ R.cells := by have := F.2.2.2.2.2.2.2.2.2.1; have := hH.1; omega
  have hC2 : (xtsl H - xtsl s.heap) + N ≤ R.slots := by have := F.2.2.2.2.2.2.2.2.2.2.1; have := hH.2.2.2.1; omega
  have hts2 : ∀ w ∈ u_ws C T N, w.before args s = true := fun w hw2 => F.word (hin w hw2) (by obtain ⟨j, -, rfl⟩ := List.mem_map.mp hw2; unfold u_lay; split <;> rfl)
  refine W.newcK F.1 F.2.1 F.2.2.2.2.2.1 (F.word hw rfl) (F.word hins rfl) (F.word hini rfl) rfl hI hC1 hC2 hkn.2.1 rfl fun H1 kC hkC d1 d2 d3 => ?_
  refine x_know fun y1 y2 y3 y4 => x_tight ?_
  have hs1 : (xtsl H1 : Int) ≤ xtsl H + (N : Int) := by omega
  have hb := u_born (s := s) (args := args) tF hts2 (fun w hw2 => hw2) hkn hkC d1 htF
  have hH1 := hH.push (t := ci) (n := (N : Int)) (c := xdef ci) d2 d3 hs1 hn hs ⟨fun _ => ⟨(C, T, N), hc, hb.to (fun k hk => hdf G k hk), fun k hk => by
    show xok (xfty ci k, xdef ci (k : Int))
    unfold xdef
    rw [Int.toNat_natCast]
    have h7 := hf7 k hk
    generalize xfty ci k = t9 at h7
    match t9 with
    | 0 => exact ⟨by decide, by decide⟩
    | 1 => exact ⟨by decide, by decide⟩
    | 2 => exact trivial
    | 3 => exact ⟨by decide, by decide⟩
    | 4 => exact ⟨by decide, by decide⟩
    | 5 => exact ⟨by decide, by decide⟩
    | 6 => exact ⟨by decide, by decide⟩
    | n + 7 => exact absurd h7 (by omega)⟩, fun q _ => by omega⟩
  have e9 : xcv G (xR (xnx h)) = .ref H.size := by
    show xadr G (xnx h) = _
    have e8 : gB G + (xnx h).toNat = H.size := by have := hH.1; have := hH.2.1; omega
    rw [hH.adr hH.2.1, e8]
  have k2 := k9 p e R s m args below meth c H1 locs ls F hH1 hL (xac (show True from trivial) hS) y1 y3 hlo
  simp only [List.map_cons, e9] at k2
  exact k2
end XQ
