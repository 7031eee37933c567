/-! ===== grd ===== -/
section
/-! the ground: what the statement gives of the start, as the first heap -/
/-- the flat list of a condition, quick -/
def flatA : Cond → List Cond → List Cond
  | .and a b, l => flatA a (flatA b l)
  | c, l => c :: l
theorem flatA_sub (T : Cond) : ∀ (l : List Cond) (c : Cond), c ∈ flatA T l → c ∈ flatC T ∨ c ∈ l := by
  induction T with
  | and a b iha ihb =>
    intro l c h
    simp only [flatA] at h
    simp only [flatC, List.mem_append]
    rcases iha _ c h with h | h
    · exact Or.inl (Or.inl h)
    · rcases ihb _ c h with h | h
      · exact Or.inl (Or.inr h)
      · exact Or.inr h
  | _ => intro l c h; simpa [flatA, flatC] using h
abbrev gvn : Cond := Jvm.Cond.and given_1 narrow_1
theorem gw_of {A : Array Value} {s : State} (h : gvn.before A s = true) {c : Cond} (hc : c ∈ flatA gvn []) : c.before A s = true := by
  rcases flatA_sub gvn [] c hc with h1 | h1
  · exact flat_of_before _ h c h1
  · cases h1
/-- the place that a term names -/
def xad (A : Array Value) (s : State) (t : Term) : Nat := match t.eval A s none [] s with
  | some (.ref a) => a
  | _ => 0
theorem xad_eq {A : Array Value} {s : State} {t : Term} {a : Nat} (h : t.eval A s none [] s = some (.ref a)) : xad A s t = a := by unfold xad; rw [h]
theorem xad_of {A : Array Value} {s : State} {t : Term} {a : Nat} (h : t.eval A s none [] s = some (.ref a)) : t.eval A s none [] s = some (.ref (xad A s t)) := by rw [xad_eq h]; exact h
theorem xadr_neg (G : XG) (r : Int) (k : Nat) (h : r = -2 - (k : Int)) : xadr G r = .ref (gd G k) := by
  unfold xadr
  rw [if_neg (by omega), if_neg (by omega), show (-2 - r).toNat = k by omega]
def xokb (v : XV) : Bool := match v.1 with
  | 0 => decide (xiR v.2)
  | 1 => decide (xlR v.2)
  | 2 => true
  | 5 => decide (-128 ≤ v.2 ∧ v.2 ≤ 127)
  | _ => false
theorem xok_b {v : XV} (h : xokb v = true) : xok v := by
  obtain ⟨t, x⟩ := v
  match t, h with
  | 0, h => exact (of_decide_eq_true h : xiR x)
  | 1, h => exact (of_decide_eq_true h : xlR x)
  | 2, _ => exact trivial
  | 5, h => exact (of_decide_eq_true h : -128 ≤ x ∧ x ≤ 127)
/-- an array that was there before -/
theorem ga_arr {A : Array Value} {s : State} {G : XG} (hG : gs G = s) {tm : Term} {nm : String} {t N k : Nat} {c : Int → Int} (vs : List Int) (h1 : 100 ≤ t) (h2 : t < 200) (hx : xaok t = true → True) (hN : N < 2 ^ 31) (harr : (Cond.arrayOf tm (xaft t)).before A s = true) (hlen : (Cond.eq (.length tm) (.int (Int32.ofNat N))).before A s = true) (hel : ∀ j : Nat, j < N → (Term.elem tm (.int (Int32.ofNat j))).eval A s none [] s = some (xcv G (xaty t, vs.getD j 0))) (hc : ∀ j : Nat, j < N → c (j : Int) = vs.getD j 0 ∧ xokb (xaty t, vs.getD j 0) = true)
    (hex : t ≠ 112 → (Cond.exactly tm nm).before A s = true ∧ s.vm.findClass nm = some (gA G t)) (e : gd G k = xad A s tm) : gd G k < gB G ∧ xCRw G s.heap (gd G k) t (N : Int) c := by
  subst hG
  have hok : ∀ j : Nat, j < N → xok (xaty t, c (j : Int)) := fun j hj => by rw [(hc j hj).1]; exact xok_b (hc j hj).2
  have hel : ∀ j : Nat, j < N → (Term.elem tm (.int (Int32.ofNat j))).eval A (gs G) none [] (gs G) = some (xcv G (xaty t, c (j : Int))) := fun j hj => by rw [(hc j hj).1]; exact hel j hj
  obtain ⟨a, ea, cell, q1, q2, q3, q4, q5, q6, -⟩ := va_Tof (A := fun _ => False) hN harr (va_eqt hlen) hel (fun _ _ z => z)
  have e1 : gd G k = a := by rw [e]; exact xad_eq ea
  rw [e1]
  refine ⟨(Array.getElem?_eq_some_iff.mp q1).1, fun z => absurd z (by omega), fun _ _ => ⟨by omega, by omega, ⟨cell, q1, fun _ => q2, fun z => ?_, ⟨q3, ?_⟩, ?_⟩, fun j hj => hok j (by omega)⟩⟩
  · obtain ⟨x1, x2⟩ := hex z
    obtain ⟨a', cc, cell', kk, y1, y2, y3, y4, y5, y6, -⟩ := Cond.exactly_spec x1
    cases ea.symm.trans y1
    cases q1.symm.trans y3
    rw [y6]
    exact Option.some.inj (y2.symm.trans x2)
  · cases hv : cell.vm <;> first | rfl | exact absurd hv (q2.1 _)
  · rw [Int.toNat_natCast]
    exact ⟨q4, q5, q6⟩
/-- a String that was there before -/
theorem ga_str {A : Array Value} {s : State} {G : XG} (hG : gs G = s) {C : String} {i k : Nat} {c : Int → Int} (hk : u_Kn s "java/lang/String" xF14 2 (gC G 14) (gI G 14)) (hex : (Cond.exactly (.string C i) "java/lang/String").before A s = true) (hco : (Cond.eq (.field (.string C i) "java/lang/String" "coder" "B") (.int 0)).before A s = true) (hex2 : (Cond.exactly (.field (.string C i) "java/lang/String" "value" "[B") "[B").before A s = true)
    (e1 : gd G k = xad A s (.string C i)) (e2 : gd G (k + 1) = xad A s (.field (.string C i) "java/lang/String" "value" "[B")) (c0 : c 0 = -3 - (k : Int)) (c1 : c 1 = 0) : gd G k < gB G ∧ xCRw G s.heap (gd G k) 14 2 c := by
  subst hG
  obtain ⟨a, cc, cell, kk, y1, y2, y3, y4, y5, y6, -⟩ := Cond.exactly_spec hex
  obtain ⟨v, cv, cellv, kv, z1, -⟩ := Cond.exactly_spec hex2
  have d1 : gd G k = a := by rw [e1]; exact xad_eq y1
  have d2 : gd G (k + 1) = v := by rw [e2]; exact xad_eq z1
  rw [d1]
  obtain ⟨cf, kf, fi, f, hi, hsl⟩ := hk.1 0 (by decide)
  obtain ⟨cf', kf', fi', f', hi', hsl'⟩ := hk.1 1 (by decide)
  obtain ⟨-, cl, w1, w2, w3, -, w4⟩ := Term.field_spec hi y1 z1
  obtain ⟨-, cl', w1', -, -, -, w4'⟩ := Term.field_spec hi' y1 (va_eqt hco)
  cases y3.symm.trans w1
  cases y3.symm.trans w1'
  refine ⟨(Array.getElem?_eq_some_iff.mp y3).1, fun _ => ⟨("java/lang/String", xF14, 2), rfl, ⟨cell, y3, ?_, ⟨w2, w3⟩, fun j hj => ?_⟩, fun j hj => ?_⟩, fun z => absurd z (by omega)⟩
  · rw [y6]
    exact Option.some.inj (y2.symm.trans hk.2.1)
  · match j, hj with
    | 0, _ =>
      rw [← hsl, w4]
      show some (Value.ref v) = some (xadr G (c 0))
      rw [xadr_neg G (c 0) (k + 1) (by rw [c0]; omega), d2]
    | 1, _ =>
      rw [← hsl', w4']
      show some (Value.int 0) = some (.int (Int32.ofInt (c 1)))
      rw [c1]
      rfl
  · match j, hj with
    | 0, _ => exact trivial
    | 1, _ =>
      show -128 ≤ c 1 ∧ c 1 ≤ 127
      rw [c1]
      decide
def xTML : List Term := [(Jvm.Term.string "BeaconIndex$Tape" 105), (Jvm.Term.field (Jvm.Term.string "BeaconIndex$Tape" 105) "java/lang/String" "value" "[B"), (Jvm.Term.string "BeaconIndex$Tape" 111), (Jvm.Term.field (Jvm.Term.string "BeaconIndex$Tape" 111) "java/lang/String" "value" "[B"), (Jvm.Term.string "BeaconIndex$Tape" 113), (Jvm.Term.field (Jvm.Term.string "BeaconIndex$Tape" 113) "java/lang/String" "value" "[B"), (Jvm.Term.string "BeaconIndex$Tape" 115), (Jvm.Term.field (Jvm.Term.string "BeaconIndex$Tape" 115) "java/lang/String" "value" "[B"), (Jvm.Term.string "BeaconIndex$Tape" 117), (Jvm.Term.field (Jvm.Term.string "BeaconIndex$Tape" 117) "java/lang/String" "value" "[B"), (Jvm.Term.string "BeaconIndex$Tape" 119), (Jvm.Term.field (Jvm.Term.string "BeaconIndex$Tape" 119) "java/lang/String" "value" "[B"), (Jvm.Term.string "BeaconIndex$Tape" 121), (Jvm.Term.field (Jvm.Term.string "BeaconIndex$Tape" 121) "java/lang/String" "value" "[B"), (Jvm.Term.string "BeaconIndex$Tape" 82), (Jvm.Term.field (Jvm.Term.string "BeaconIndex$Tape" 82) "java/lang/String" "value" "[B"), (Jvm.Term.string "BeaconIndex$Tape" 87), (Jvm.Term.field (Jvm.Term.string "BeaconIndex$Tape" 87) "java/lang/String" "value" "[B"), (Jvm.Term.string "BeaconIndex$Tape" 89), (Jvm.Term.field (Jvm.Term.string "BeaconIndex$Tape" 89) "java/lang/String" "value" "[B"), (Jvm.Term.string "BeaconIndex$Tape" 91), (Jvm.Term.field (Jvm.Term.string "BeaconIndex$Tape" 91) "java/lang/String" "value" "[B"), (Jvm.Term.string "BeaconIndex$Tape" 93), (Jvm.Term.field (Jvm.Term.string "BeaconIndex$Tape" 93) "java/lang/String" "value" "[B"), (Jvm.Term.string "BeaconIndex$Tape" 95), (Jvm.Term.field (Jvm.Term.string "BeaconIndex$Tape" 95) "java/lang/String" "value" "[B"), (Jvm.Term.string "BeaconIndex$Tape" 97), (Jvm.Term.field (Jvm.Term.string "BeaconIndex$Tape" 97) "java/lang/String" "value" "[B"), (Jvm.Term.string "BeaconIndex$Tape" 99), (Jvm.Term.field (Jvm.Term.string "BeaconIndex$Tape" 99) "java/lang/String" "value" "[B"), (Jvm.Term.string "BeaconIndex$QuestionReader" 190), (Jvm.Term.field (Jvm.Term.string "BeaconIndex$QuestionReader" 190) "java/lang/String" "value" "[B"), (Jvm.Term.string "BeaconIndex$QuestionReader" 196), (Jvm.Term.field (Jvm.Term.string "BeaconIndex$QuestionReader" 196) "java/lang/String" "value" "[B"), (Jvm.Term.string "BeaconIndexModel" 155), (Jvm.Term.field (Jvm.Term.string "BeaconIndexModel" 155) "java/lang/String" "value" "[B"), (Jvm.Term.string "BeaconIndexModel" 164), (Jvm.Term.field (Jvm.Term.string "BeaconIndexModel" 164) "java/lang/String" "value" "[B"), (Jvm.Term.string "BeaconIndexModel" 166), (Jvm.Term.field (Jvm.Term.string "BeaconIndexModel" 166) "java/lang/String" "value" "[B"), (Jvm.Term.string "BeaconIndexModel" 168), (Jvm.Term.field (Jvm.Term.string "BeaconIndexModel" 168) "java/lang/String" "value" "[B"), (Jvm.Term.string "BeaconIndexModel" 170), (Jvm.Term.field (Jvm.Term.string "BeaconIndexModel" 170) "java/lang/String" "value" "[B"), (Jvm.Term.string "BeaconIndexModel" 172), (Jvm.Term.field (Jvm.Term.string "BeaconIndexModel" 172) "java/lang/String" "value" "[B"), (Jvm.Term.string "BeaconIndexModel" 174), (Jvm.Term.field (Jvm.Term.string "BeaconIndexModel" 174) "java/lang/String" "value" "[B"), (Jvm.Term.string "java/util/Arrays" 48), (Jvm.Term.arg 0), (Jvm.Term.string "java/util/Arrays" 57), (Jvm.Term.arg 0), (Jvm.Term.string "java/util/Arrays" 59), (Jvm.Term.arg 0), (Jvm.Term.string "java/util/Arrays" 337), (Jvm.Term.arg 0), (Jvm.Term.string "java/lang/ArrayIndexOutOfBoundsException" 13), (Jvm.Term.arg 0), (Jvm.Term.string "BeaconIndexModel" 247), (Jvm.Term.field (Jvm.Term.string "BeaconIndexModel" 247) "java/lang/String" "value" "[B"), (Jvm.Term.string "BeaconIndexModel" 287), (Jvm.Term.field (Jvm.Term.string "BeaconIndexModel" 287) "java/lang/String" "value" "[B"), (Jvm.Term.string "BeaconIndexModel" 289), (Jvm.Term.field (Jvm.Term.string "BeaconIndexModel" 289) "java/lang/String" "value" "[B"), (Jvm.Term.string "BeaconIndexModel" 487), (Jvm.Term.field (Jvm.Term.string "BeaconIndexModel" 487) "java/lang/String" "value" "[B"), (Jvm.Term.string "BeaconIndexModel" 489), (Jvm.Term.field (Jvm.Term.string "BeaconIndexModel" 489) "java/lang/String" "value" "[B"), (Jvm.Term.string "BeaconIndexModel" 491), (Jvm.Term.field (Jvm.Term.string "BeaconIndexModel" 491) "java/lang/String" "value" "[B"), (Jvm.Term.string "BeaconIndexModel" 493), (Jvm.Term.field (Jvm.Term.string "BeaconIndexModel" 493) "java/lang/String" "value" "[B"), (Jvm.Term.string "BeaconIndexModel" 495), (Jvm.Term.field (Jvm.Term.string "BeaconIndexModel" 495) "java/lang/String" "value" "[B"), (Jvm.Term.string "BeaconIndexModel" 497), (Jvm.Term.field (Jvm.Term.string "BeaconIndexModel" 497) "java/lang/String" "value" "[B"), (Jvm.Term.string "BeaconIndexModel" 499), (Jvm.Term.field (Jvm.Term.string "BeaconIndexModel" 499) "java/lang/String" "value" "[B"), (Jvm.Term.string "BeaconIndexModel" 501), (Jvm.Term.field (Jvm.Term.string "BeaconIndexModel" 501) "java/lang/String" "value" "[B"), (Jvm.Term.arg 0), (Jvm.Term.arg 0), (Jvm.Term.arg 0), (Jvm.Term.arg 0), (Jvm.Term.arg 0), (Jvm.Term.arg 0), (Jvm.Term.arg 0), (Jvm.Term.arg 0), (Jvm.Term.arg 0), (Jvm.Term.arg 0), (Jvm.Term.arg 0), (Jvm.Term.arg 0), (Jvm.Term.arg 0), (Jvm.Term.arg 0), (Jvm.Term.arg 0), (Jvm.Term.arg 0), (Jvm.Term.arg 0), (Jvm.Term.arg 0), (Jvm.Term.arg 0), (Jvm.Term.arg 0), (Jvm.Term.static "BeaconIndex$Words" "POWERS" "[J"), (Jvm.Term.static "java/util/ArrayList" "DEFAULTCAPACITY_EMPTY_ELEMENTDATA" "[Ljava/lang/Object;"), (Jvm.Term.static "BeaconIndexModel" "SMALL_WORDS" "[Ljava/lang/String;"), (Jvm.Term.arg 0), (Jvm.Term.arg 0), (Jvm.Term.static "jdk/internal/util/Preconditions" "SIOOBE_FORMATTER" "Ljava/util/function/BiFunction;"), (Jvm.Term.arg 0)]
def xtmf (k : Nat) : Term := (xTML[k]?).getD (.arg 0)
theorem gh_eq {A : Array Value} {s : State} {G : XG} {t u : Term} {k : Nat} (h : (Cond.eq t u).before A s = true) (hx : (Cond.exactly u "java/lang/String").before A s = true) (hd : ∀ k, k ≠ 104 → gd G k = xad A s (xtmf k)) (e : xtmf k = u) (hk : k ≠ 104 := by decide) : t.eval A s none [] s = some (.ref (gd G k)) := by
  obtain ⟨a, -, -, -, y1, -⟩ := Cond.exactly_spec hx
  rw [hd k hk, e, xad_eq y1]
  cases hv : t.eval A s none [] s with
  | none => simp [Cond.before, Cond.holds, Cond.value, hv] at h
  | some w =>
    simp only [Cond.before, Cond.holds, Cond.value, hv, y1] at h
    cases w <;> simp_all
theorem nw_305 : (Jvm.Cond.exactly (Jvm.Term.string "BeaconIndex$Tape" 105) "java/lang/String") ∈ flatA gvn [] := List.mem_of_getElem? (i := 305) (by decide +kernel)
theorem nw_306 : (Jvm.Cond.eq (Jvm.Term.field (Jvm.Term.string "BeaconIndex$Tape" 105) "java/lang/String" "coder" "B") (Jvm.Term.int 0)) ∈ flatA gvn [] := List.mem_of_getElem? (i := 306) (by decide +kernel)
theorem nw_632 : (Jvm.Cond.exactly (Jvm.Term.field (Jvm.Term.string "BeaconIndex$Tape" 105) "java/lang/String" "value" "[B") "[B") ∈ flatA gvn [] := List.mem_of_getElem? (i := 632) (by decide +kernel)
theorem gk_0 {A : Array Value} {s : State} {G : XG} (hG : gs G = s) (hw : gvn.before A s = true) (hd : ∀ k, k ≠ 104 → gd G k = xad A s (xtmf k)) (hS : u_Kn s "java/lang/String" xF14 2 (gC G 14) (gI G 14)) (hA : ∀ t : Nat, xaok t = true → s.vm.findClass ("[" ++ (xaft t).toString) = some (gA G t)) : gd G 0 < gB G ∧ xCRw G s.heap (gd G 0) 14 2 (xpl xH0 (-2)) := ga_str hG hS (gw_of hw nw_305) (gw_of hw nw_306) (gw_of hw nw_632) (hd 0 (by decide)) (hd 1 (by decide)) (by decide +kernel) (by decide +kernel)
theorem nw_309 : (Jvm.Cond.eq (Jvm.Term.elem (Jvm.Term.field (Jvm.Term.string "BeaconIndex$Tape" 105) "java/lang/String" "value" "[B") (Jvm.Term.int 0)) (Jvm.Term.int 105)) ∈ flatA gvn [] := List.mem_of_getElem? (i := 309) (by decide +kernel)
theorem nw_310 : (Jvm.Cond.eq (Jvm.Term.elem (Jvm.Term.field (Jvm.Term.string "BeaconIndex$Tape" 105) "java/lang/String" "value" "[B") (Jvm.Term.int 1)) (Jvm.Term.int 101)) ∈ flatA gvn [] := List.mem_of_getElem? (i := 310) (by decide +kernel)
theorem nw_311 : (Jvm.Cond.eq (Jvm.Term.elem (Jvm.Term.field (Jvm.Term.string "BeaconIndex$Tape" 105) "java/lang/String" "value" "[B") (Jvm.Term.int 2)) (Jvm.Term.int 115)) ∈ flatA gvn [] := List.mem_of_getElem? (i := 311) (by decide +kernel)
theorem nw_307 : (Jvm.Cond.arrayOf (Jvm.Term.field (Jvm.Term.string "BeaconIndex$Tape" 105) "java/lang/String" "value" "[B") Jvm.ClassFile.FieldType.byte) ∈ flatA gvn [] := List.mem_of_getElem? (i := 307) (by decide +kernel)
theorem nw_308 : (Jvm.Cond.eq (Jvm.Term.length (Jvm.Term.field (Jvm.Term.string "BeaconIndex$Tape" 105) "java/lang/String" "value" "[B")) (Jvm.Term.int 3)) ∈ flatA gvn [] := List.mem_of_getElem? (i := 308) (by decide +kernel)
theorem gk_1 {A : Array Value} {s : State} {G : XG} (hG : gs G = s) (hw : gvn.before A s = true) (hd : ∀ k, k ≠ 104 → gd G k = xad A s (xtmf k)) (hS : u_Kn s "java/lang/String" xF14 2 (gC G 14) (gI G 14)) (hA : ∀ t : Nat, xaok t = true → s.vm.findClass ("[" ++ (xaft t).toString) = some (gA G t)) : gd G 1 < gB G ∧ xCRw G s.heap (gd G 1) 103 3 (xpl xH0 (-3)) := by
  refine ga_arr hG (tm := (Jvm.Term.field (Jvm.Term.string "BeaconIndex$Tape" 105) "java/lang/String" "value" "[B")) (nm := "[B") (t := 103) (N := 3) [105, 101, 115] (by decide) (by decide) (fun _ => trivial) (by decide) (gw_of hw nw_307) (gw_of hw nw_308) ?_ (by decide +kernel) (fun _ => ⟨gw_of hw nw_632, by have := hA 103 rfl; rw [← this]; rfl⟩) (hd 1 (by decide))
  intro j hj
  match j, hj with
  | 0, _ => exact (va_eqt (gw_of hw nw_309)).trans (congrArg (fun z => some (Value.int z)) (by decide : (105 : Int32) = Int32.ofInt 105))
  | 1, _ => exact (va_eqt (gw_of hw nw_310)).trans (congrArg (fun z => some (Value.int z)) (by decide : (101 : Int32) = Int32.ofInt 101))
  | 2, _ => exact (va_eqt (gw_of hw nw_311)).trans (congrArg (fun z => some (Value.int z)) (by decide : (115 : Int32) = Int32.ofInt 115))
  | n + 3, h => exact absurd h (by omega)
theorem nw_312 : (Jvm.Cond.exactly (Jvm.Term.string "BeaconIndex$Tape" 111) "java/lang/String") ∈ flatA gvn [] := List.mem_of_getElem? (i := 312) (by decide +kernel)
theorem nw_313 : (Jvm.Cond.eq (Jvm.Term.field (Jvm.Term.string "BeaconIndex$Tape" 111) "java/lang/String" "coder" "B") (Jvm.Term.int 0)) ∈ flatA gvn [] := List.mem_of_getElem? (i := 313) (by decide +kernel)
theorem nw_633 : (Jvm.Cond.exactly (Jvm.Term.field (Jvm.Term.string "BeaconIndex$Tape" 111) "java/lang/String" "value" "[B") "[B") ∈ flatA gvn [] := List.mem_of_getElem? (i := 633) (by decide +kernel)
theorem gk_2 {A : Array Value} {s : State} {G : XG} (hG : gs G = s) (hw : gvn.before A s = true) (hd : ∀ k, k ≠ 104 → gd G k = xad A s (xtmf k)) (hS : u_Kn s "java/lang/String" xF14 2 (gC G 14) (gI G 14)) (hA : ∀ t : Nat, xaok t = true → s.vm.findClass ("[" ++ (xaft t).toString) = some (gA G t)) : gd G 2 < gB G ∧ xCRw G s.heap (gd G 2) 14 2 (xpl xH0 (-4)) := ga_str hG hS (gw_of hw nw_312) (gw_of hw nw_313) (gw_of hw nw_633) (hd 2 (by decide)) (hd 3 (by decide)) (by decide +kernel) (by decide +kernel)
theorem nw_316 : (Jvm.Cond.eq (Jvm.Term.elem (Jvm.Term.field (Jvm.Term.string "BeaconIndex$Tape" 111) "java/lang/String" "value" "[B") (Jvm.Term.int 0)) (Jvm.Term.int 115)) ∈ flatA gvn [] := List.mem_of_getElem? (i := 316) (by decide +kernel)
theorem nw_317 : (Jvm.Cond.eq (Jvm.Term.elem (Jvm.Term.field (Jvm.Term.string "BeaconIndex$Tape" 111) "java/lang/String" "value" "[B") (Jvm.Term.int 1)) (Jvm.Term.int 115)) ∈ flatA gvn [] := List.mem_of_getElem? (i := 317) (by decide +kernel)
theorem nw_318 : (Jvm.Cond.eq (Jvm.Term.elem (Jvm.Term.field (Jvm.Term.string "BeaconIndex$Tape" 111) "java/lang/String" "value" "[B") (Jvm.Term.int 2)) (Jvm.Term.int 101)) ∈ flatA gvn [] := List.mem_of_getElem? (i := 318) (by decide +kernel)
theorem nw_319 : (Jvm.Cond.eq (Jvm.Term.elem (Jvm.Term.field (Jvm.Term.string "BeaconIndex$Tape" 111) "java/lang/String" "value" "[B") (Jvm.Term.int 3)) (Jvm.Term.int 115)) ∈ flatA gvn [] := List.mem_of_getElem? (i := 319) (by decide +kernel)
theorem nw_314 : (Jvm.Cond.arrayOf (Jvm.Term.field (Jvm.Term.string "BeaconIndex$Tape" 111) "java/lang/String" "value" "[B") Jvm.ClassFile.FieldType.byte) ∈ flatA gvn [] := List.mem_of_getElem? (i := 314) (by decide +kernel)
theorem nw_315 : (Jvm.Cond.eq (Jvm.Term.length (Jvm.Term.field (Jvm.Term.string "BeaconIndex$Tape" 111) "java/lang/String" "value" "[B")) (Jvm.Term.int 4)) ∈ flatA gvn [] := List.mem_of_getElem? (i := 315) (by decide +kernel)
theorem gk_3 {A : Array Value} {s : State} {G : XG} (hG : gs G = s) (hw : gvn.before A s = true) (hd : ∀ k, k ≠ 104 → gd G k = xad A s (xtmf k)) (hS : u_Kn s "java/lang/String" xF14 2 (gC G 14) (gI G 14)) (hA : ∀ t : Nat, xaok t = true → s.vm.findClass ("[" ++ (xaft t).toString) = some (gA G t)) : gd G 3 < gB G ∧ xCRw G s.heap (gd G 3) 103 4 (xpl xH0 (-5)) := by
  refine ga_arr hG (tm := (Jvm.Term.field (Jvm.Term.string "BeaconIndex$Tape" 111) "java/lang/String" "value" "[B")) (nm := "[B") (t := 103) (N := 4) [115, 115, 101, 115] (by decide) (by decide) (fun _ => trivial) (by decide) (gw_of hw nw_314) (gw_of hw nw_315) ?_ (by decide +kernel) (fun _ => ⟨gw_of hw nw_633, by have := hA 103 rfl; rw [← this]; rfl⟩) (hd 3 (by decide))
  intro j hj
  match j, hj with
  | 0, _ => exact (va_eqt (gw_of hw nw_316)).trans (congrArg (fun z => some (Value.int z)) (by decide : (115 : Int32) = Int32.ofInt 115))
  | 1, _ => exact (va_eqt (gw_of hw nw_317)).trans (congrArg (fun z => some (Value.int z)) (by decide : (115 : Int32) = Int32.ofInt 115))
  | 2, _ => exact (va_eqt (gw_of hw nw_318)).trans (congrArg (fun z => some (Value.int z)) (by decide : (101 : Int32) = Int32.ofInt 101))
  | 3, _ => exact (va_eqt (gw_of hw nw_319)).trans (congrArg (fun z => some (Value.int z)) (by decide : (115 : Int32) = Int32.ofInt 115))
  | n + 4, h => exact absurd h (by omega)
theorem nw_320 : (Jvm.Cond.exactly (Jvm.Term.string "BeaconIndex$Tape" 113) "java/lang/String") ∈ flatA gvn [] := List.mem_of_getElem? (i := 320) (by decide +kernel)
theorem nw_321 : (Jvm.Cond.eq (Jvm.Term.field (Jvm.Term.string "BeaconIndex$Tape" 113) "java/lang/String" "coder" "B") (Jvm.Term.int 0)) ∈ flatA gvn [] := List.mem_of_getElem? (i := 321) (by decide +kernel)
theorem nw_634 : (Jvm.Cond.exactly (Jvm.Term.field (Jvm.Term.string "BeaconIndex$Tape" 113) "java/lang/String" "value" "[B") "[B") ∈ flatA gvn [] := List.mem_of_getElem? (i := 634) (by decide +kernel)
theorem gk_4 {A : Array Value} {s : State} {G : XG} (hG : gs G = s) (hw : gvn.before A s = true) (hd : ∀ k, k ≠ 104 → gd G k = xad A s (xtmf k)) (hS : u_Kn s "java/lang/String" xF14 2 (gC G 14) (gI G 14)) (hA : ∀ t : Nat, xaok t = true → s.vm.findClass ("[" ++ (xaft t).toString) = some (gA G t)) : gd G 4 < gB G ∧ xCRw G s.heap (gd G 4) 14 2 (xpl xH0 (-6)) := ga_str hG hS (gw_of hw nw_320) (gw_of hw nw_321) (gw_of hw nw_634) (hd 4 (by decide)) (hd 5 (by decide)) (by decide +kernel) (by decide +kernel)
theorem nw_324 : (Jvm.Cond.eq (Jvm.Term.elem (Jvm.Term.field (Jvm.Term.string "BeaconIndex$Tape" 113) "java/lang/String" "value" "[B") (Jvm.Term.int 0)) (Jvm.Term.int 115)) ∈ flatA gvn [] := List.mem_of_getElem? (i := 324) (by decide +kernel)
theorem nw_322 : (Jvm.Cond.arrayOf (Jvm.Term.field (Jvm.Term.string "BeaconIndex$Tape" 113) "java/lang/String" "value" "[B") Jvm.ClassFile.FieldType.byte) ∈ flatA gvn [] := List.mem_of_getElem? (i := 322) (by decide +kernel)
theorem nw_323 : (Jvm.Cond.eq (Jvm.Term.length (Jvm.Term.field (Jvm.Term.string "BeaconIndex$Tape" 113) "java/lang/String" "value" "[B")) (Jvm.Term.int 1)) ∈ flatA gvn [] := List.mem_of_getElem? (i := 323) (by decide +kernel)
theorem gk_5 {A : Array Value} {s : State} {G : XG} (hG : gs G = s) (hw : gvn.before A s = true) (hd : ∀ k, k ≠ 104 → gd G k = xad A s (xtmf k)) (hS : u_Kn s "java/lang/String" xF14 2 (gC G 14) (gI G 14)) (hA : ∀ t : Nat, xaok t = true → s.vm.findClass ("[" ++ (xaft t).toString) = some (gA G t)) : gd G 5 < gB G ∧ xCRw G s.heap (gd G 5) 103 1 (xpl xH0 (-7)) := by
  refine ga_arr hG (tm := (Jvm.Term.field (Jvm.Term.string "BeaconIndex$Tape" 113) "java/lang/String" "value" "[B")) (nm := "[B") (t := 103) (N := 1) [115] (by decide) (by decide) (fun _ => trivial) (by decide) (gw_of hw nw_322) (gw_of hw nw_323) ?_ (by decide +kernel) (fun _ => ⟨gw_of hw nw_634, by have := hA 103 rfl; rw [← this]; rfl⟩) (hd 5 (by decide))
  intro j hj
  match j, hj with
  | 0, _ => exact (va_eqt (gw_of hw nw_324)).trans (congrArg (fun z => some (Value.int z)) (by decide : (115 : Int32) = Int32.ofInt 115))
  | n + 1, h => exact absurd h (by omega)
theorem nw_325 : (Jvm.Cond.exactly (Jvm.Term.string "BeaconIndex$Tape" 115) "java/lang/String") ∈ flatA gvn [] := List.mem_of_getElem? (i := 325) (by decide +kernel)
theorem nw_326 : (Jvm.Cond.eq (Jvm.Term.field (Jvm.Term.string "BeaconIndex$Tape" 115) "java/lang/String" "coder" "B") (Jvm.Term.int 0)) ∈ flatA gvn [] := List.mem_of_getElem? (i := 326) (by decide +kernel)
theorem nw_635 : (Jvm.Cond.exactly (Jvm.Term.field (Jvm.Term.string "BeaconIndex$Tape" 115) "java/lang/String" "value" "[B") "[B") ∈ flatA gvn [] := List.mem_of_getElem? (i := 635) (by decide +kernel)
theorem gk_6 {A : Array Value} {s : State} {G : XG} (hG : gs G = s) (hw : gvn.before A s = true) (hd : ∀ k, k ≠ 104 → gd G k = xad A s (xtmf k)) (hS : u_Kn s "java/lang/String" xF14 2 (gC G 14) (gI G 14)) (hA : ∀ t : Nat, xaok t = true → s.vm.findClass ("[" ++ (xaft t).toString) = some (gA G t)) : gd G 6 < gB G ∧ xCRw G s.heap (gd G 6) 14 2 (xpl xH0 (-8)) := ga_str hG hS (gw_of hw nw_325) (gw_of hw nw_326) (gw_of hw nw_635) (hd 6 (by decide)) (hd 7 (by decide)) (by decide +kernel) (by decide +kernel)
theorem nw_329 : (Jvm.Cond.eq (Jvm.Term.elem (Jvm.Term.field (Jvm.Term.string "BeaconIndex$Tape" 115) "java/lang/String" "value" "[B") (Jvm.Term.int 0)) (Jvm.Term.int 115)) ∈ flatA gvn [] := List.mem_of_getElem? (i := 329) (by decide +kernel)
theorem nw_330 : (Jvm.Cond.eq (Jvm.Term.elem (Jvm.Term.field (Jvm.Term.string "BeaconIndex$Tape" 115) "java/lang/String" "value" "[B") (Jvm.Term.int 1)) (Jvm.Term.int 115)) ∈ flatA gvn [] := List.mem_of_getElem? (i := 330) (by decide +kernel)
theorem nw_327 : (Jvm.Cond.arrayOf (Jvm.Term.field (Jvm.Term.string "BeaconIndex$Tape" 115) "java/lang/String" "value" "[B") Jvm.ClassFile.FieldType.byte) ∈ flatA gvn [] := List.mem_of_getElem? (i := 327) (by decide +kernel)
theorem nw_328 : (Jvm.Cond.eq (Jvm.Term.length (Jvm.Term.field (Jvm.Term.string "BeaconIndex$Tape" 115) "java/lang/String" "value" "[B")) (Jvm.Term.int 2)) ∈ flatA gvn [] := List.mem_of_getElem? (i := 328) (by decide +kernel)
theorem gk_7 {A : Array Value} {s : State} {G : XG} (hG : gs G = s) (hw : gvn.before A s = true) (hd : ∀ k, k ≠ 104 → gd G k = xad A s (xtmf k)) (hS : u_Kn s "java/lang/String" xF14 2 (gC G 14) (gI G 14)) (hA : ∀ t : Nat, xaok t = true → s.vm.findClass ("[" ++ (xaft t).toString) = some (gA G t)) : gd G 7 < gB G ∧ xCRw G s.heap (gd G 7) 103 2 (xpl xH0 (-9)) := by
  refine ga_arr hG (tm := (Jvm.Term.field (Jvm.Term.string "BeaconIndex$Tape" 115) "java/lang/String" "value" "[B")) (nm := "[B") (t := 103) (N := 2) [115, 115] (by decide) (by decide) (fun _ => trivial) (by decide) (gw_of hw nw_327) (gw_of hw nw_328) ?_ (by decide +kernel) (fun _ => ⟨gw_of hw nw_635, by have := hA 103 rfl; rw [← this]; rfl⟩) (hd 7 (by decide))
  intro j hj
  match j, hj with
  | 0, _ => exact (va_eqt (gw_of hw nw_329)).trans (congrArg (fun z => some (Value.int z)) (by decide : (115 : Int32) = Int32.ofInt 115))
  | 1, _ => exact (va_eqt (gw_of hw nw_330)).trans (congrArg (fun z => some (Value.int z)) (by decide : (115 : Int32) = Int32.ofInt 115))
  | n + 2, h => exact absurd h (by omega)
theorem nw_331 : (Jvm.Cond.exactly (Jvm.Term.string "BeaconIndex$Tape" 117) "java/lang/String") ∈ flatA gvn [] := List.mem_of_getElem? (i := 331) (by decide +kernel)
theorem nw_332 : (Jvm.Cond.eq (Jvm.Term.field (Jvm.Term.string "BeaconIndex$Tape" 117) "java/lang/String" "coder" "B") (Jvm.Term.int 0)) ∈ flatA gvn [] := List.mem_of_getElem? (i := 332) (by decide +kernel)
theorem nw_636 : (Jvm.Cond.exactly (Jvm.Term.field (Jvm.Term.string "BeaconIndex$Tape" 117) "java/lang/String" "value" "[B") "[B") ∈ flatA gvn [] := List.mem_of_getElem? (i := 636) (by decide +kernel)
theorem gk_8 {A : Array Value} {s : State} {G : XG} (hG : gs G = s) (hw : gvn.before A s = true) (hd : ∀ k, k ≠ 104 → gd G k = xad A s (xtmf k)) (hS : u_Kn s "java/lang/String" xF14 2 (gC G 14) (gI G 14)) (hA : ∀ t : Nat, xaok t = true → s.vm.findClass ("[" ++ (xaft t).toString) = some (gA G t)) : gd G 8 < gB G ∧ xCRw G s.heap (gd G 8) 14 2 (xpl xH0 (-10)) := ga_str hG hS (gw_of hw nw_331) (gw_of hw nw_332) (gw_of hw nw_636) (hd 8 (by decide)) (hd 9 (by decide)) (by decide +kernel) (by decide +kernel)
theorem nw_335 : (Jvm.Cond.eq (Jvm.Term.elem (Jvm.Term.field (Jvm.Term.string "BeaconIndex$Tape" 117) "java/lang/String" "value" "[B") (Jvm.Term.int 0)) (Jvm.Term.int 117)) ∈ flatA gvn [] := List.mem_of_getElem? (i := 335) (by decide +kernel)
theorem nw_336 : (Jvm.Cond.eq (Jvm.Term.elem (Jvm.Term.field (Jvm.Term.string "BeaconIndex$Tape" 117) "java/lang/String" "value" "[B") (Jvm.Term.int 1)) (Jvm.Term.int 115)) ∈ flatA gvn [] := List.mem_of_getElem? (i := 336) (by decide +kernel)
theorem nw_333 : (Jvm.Cond.arrayOf (Jvm.Term.field (Jvm.Term.string "BeaconIndex$Tape" 117) "java/lang/String" "value" "[B") Jvm.ClassFile.FieldType.byte) ∈ flatA gvn [] := List.mem_of_getElem? (i := 333) (by decide +kernel)
theorem nw_334 : (Jvm.Cond.eq (Jvm.Term.length (Jvm.Term.field (Jvm.Term.string "BeaconIndex$Tape" 117) "java/lang/String" "value" "[B")) (Jvm.Term.int 2)) ∈ flatA gvn [] := List.mem_of_getElem? (i := 334) (by decide +kernel)
theorem gk_9 {A : Array Value} {s : State} {G : XG} (hG : gs G = s) (hw : gvn.before A s = true) (hd : ∀ k, k ≠ 104 → gd G k = xad A s (xtmf k)) (hS : u_Kn s "java/lang/String" xF14 2 (gC G 14) (gI G 14)) (hA : ∀ t : Nat, xaok t = true → s.vm.findClass ("[" ++ (xaft t).toString) = some (gA G t)) : gd G 9 < gB G ∧ xCRw G s.heap (gd G 9) 103 2 (xpl xH0 (-11)) := by
  refine ga_arr hG (tm := (Jvm.Term.field (Jvm.Term.string "BeaconIndex$Tape" 117) "java/lang/String" "value" "[B")) (nm := "[B") (t := 103) (N := 2) [117, 115] (by decide) (by decide) (fun _ => trivial) (by decide) (gw_of hw nw_333) (gw_of hw nw_334) ?_ (by decide +kernel) (fun _ => ⟨gw_of hw nw_636, by have := hA 103 rfl; rw [← this]; rfl⟩) (hd 9 (by decide))
  intro j hj
  match j, hj with
  | 0, _ => exact (va_eqt (gw_of hw nw_335)).trans (congrArg (fun z => some (Value.int z)) (by decide : (117 : Int32) = Int32.ofInt 117))
  | 1, _ => exact (va_eqt (gw_of hw nw_336)).trans (congrArg (fun z => some (Value.int z)) (by decide : (115 : Int32) = Int32.ofInt 115))
  | n + 2, h => exact absurd h (by omega)
theorem nw_337 : (Jvm.Cond.exactly (Jvm.Term.string "BeaconIndex$Tape" 119) "java/lang/String") ∈ flatA gvn [] := List.mem_of_getElem? (i := 337) (by decide +kernel)
theorem nw_338 : (Jvm.Cond.eq (Jvm.Term.field (Jvm.Term.string "BeaconIndex$Tape" 119) "java/lang/String" "coder" "B") (Jvm.Term.int 0)) ∈ flatA gvn [] := List.mem_of_getElem? (i := 338) (by decide +kernel)
theorem nw_637 : (Jvm.Cond.exactly (Jvm.Term.field (Jvm.Term.string "BeaconIndex$Tape" 119) "java/lang/String" "value" "[B") "[B") ∈ flatA gvn [] := List.mem_of_getElem? (i := 637) (by decide +kernel)
theorem gk_10 {A : Array Value} {s : State} {G : XG} (hG : gs G = s) (hw : gvn.before A s = true) (hd : ∀ k, k ≠ 104 → gd G k = xad A s (xtmf k)) (hS : u_Kn s "java/lang/String" xF14 2 (gC G 14) (gI G 14)) (hA : ∀ t : Nat, xaok t = true → s.vm.findClass ("[" ++ (xaft t).toString) = some (gA G t)) : gd G 10 < gB G ∧ xCRw G s.heap (gd G 10) 14 2 (xpl xH0 (-12)) := ga_str hG hS (gw_of hw nw_337) (gw_of hw nw_338) (gw_of hw nw_637) (hd 10 (by decide)) (hd 11 (by decide)) (by decide +kernel) (by decide +kernel)
theorem nw_341 : (Jvm.Cond.eq (Jvm.Term.elem (Jvm.Term.field (Jvm.Term.string "BeaconIndex$Tape" 119) "java/lang/String" "value" "[B") (Jvm.Term.int 0)) (Jvm.Term.int 105)) ∈ flatA gvn [] := List.mem_of_getElem? (i := 341) (by decide +kernel)
theorem nw_342 : (Jvm.Cond.eq (Jvm.Term.elem (Jvm.Term.field (Jvm.Term.string "BeaconIndex$Tape" 119) "java/lang/String" "value" "[B") (Jvm.Term.int 1)) (Jvm.Term.int 110)) ∈ flatA gvn [] := List.mem_of_getElem? (i := 342) (by decide +kernel)
theorem nw_343 : (Jvm.Cond.eq (Jvm.Term.elem (Jvm.Term.field (Jvm.Term.string "BeaconIndex$Tape" 119) "java/lang/String" "value" "[B") (Jvm.Term.int 2)) (Jvm.Term.int 103)) ∈ flatA gvn [] := List.mem_of_getElem? (i := 343) (by decide +kernel)
theorem nw_339 : (Jvm.Cond.arrayOf (Jvm.Term.field (Jvm.Term.string "BeaconIndex$Tape" 119) "java/lang/String" "value" "[B") Jvm.ClassFile.FieldType.byte) ∈ flatA gvn [] := List.mem_of_getElem? (i := 339) (by decide +kernel)
theorem nw_340 : (Jvm.Cond.eq (Jvm.Term.length (Jvm.Term.field (Jvm.Term.string "BeaconIndex$Tape" 119) "java/lang/String" "value" "[B")) (Jvm.Term.int 3)) ∈ flatA gvn [] := List.mem_of_getElem? (i := 340) (by decide +kernel)
theorem gk_11 {A : Array Value} {s : State} {G : XG} (hG : gs G = s) (hw : gvn.before A s = true) (hd : ∀ k, k ≠ 104 → gd G k = xad A s (xtmf k)) (hS : u_Kn s "java/lang/String" xF14 2 (gC G 14) (gI G 14)) (hA : ∀ t : Nat, xaok t = true → s.vm.findClass ("[" ++ (xaft t).toString) = some (gA G t)) : gd G 11 < gB G ∧ xCRw G s.heap (gd G 11) 103 3 (xpl xH0 (-13)) := by
  refine ga_arr hG (tm := (Jvm.Term.field (Jvm.Term.string "BeaconIndex$Tape" 119) "java/lang/String" "value" "[B")) (nm := "[B") (t := 103) (N := 3) [105, 110, 103] (by decide) (by decide) (fun _ => trivial) (by decide) (gw_of hw nw_339) (gw_of hw nw_340) ?_ (by decide +kernel) (fun _ => ⟨gw_of hw nw_637, by have := hA 103 rfl; rw [← this]; rfl⟩) (hd 11 (by decide))
  intro j hj
  match j, hj with
  | 0, _ => exact (va_eqt (gw_of hw nw_341)).trans (congrArg (fun z => some (Value.int z)) (by decide : (105 : Int32) = Int32.ofInt 105))
  | 1, _ => exact (va_eqt (gw_of hw nw_342)).trans (congrArg (fun z => some (Value.int z)) (by decide : (110 : Int32) = Int32.ofInt 110))
  | 2, _ => exact (va_eqt (gw_of hw nw_343)).trans (congrArg (fun z => some (Value.int z)) (by decide : (103 : Int32) = Int32.ofInt 103))
  | n + 3, h => exact absurd h (by omega)
theorem nw_344 : (Jvm.Cond.exactly (Jvm.Term.string "BeaconIndex$Tape" 121) "java/lang/String") ∈ flatA gvn [] := List.mem_of_getElem? (i := 344) (by decide +kernel)
theorem nw_345 : (Jvm.Cond.eq (Jvm.Term.field (Jvm.Term.string "BeaconIndex$Tape" 121) "java/lang/String" "coder" "B") (Jvm.Term.int 0)) ∈ flatA gvn [] := List.mem_of_getElem? (i := 345) (by decide +kernel)
theorem nw_638 : (Jvm.Cond.exactly (Jvm.Term.field (Jvm.Term.string "BeaconIndex$Tape" 121) "java/lang/String" "value" "[B") "[B") ∈ flatA gvn [] := List.mem_of_getElem? (i := 638) (by decide +kernel)
theorem gk_12 {A : Array Value} {s : State} {G : XG} (hG : gs G = s) (hw : gvn.before A s = true) (hd : ∀ k, k ≠ 104 → gd G k = xad A s (xtmf k)) (hS : u_Kn s "java/lang/String" xF14 2 (gC G 14) (gI G 14)) (hA : ∀ t : Nat, xaok t = true → s.vm.findClass ("[" ++ (xaft t).toString) = some (gA G t)) : gd G 12 < gB G ∧ xCRw G s.heap (gd G 12) 14 2 (xpl xH0 (-14)) := ga_str hG hS (gw_of hw nw_344) (gw_of hw nw_345) (gw_of hw nw_638) (hd 12 (by decide)) (hd 13 (by decide)) (by decide +kernel) (by decide +kernel)
theorem nw_348 : (Jvm.Cond.eq (Jvm.Term.elem (Jvm.Term.field (Jvm.Term.string "BeaconIndex$Tape" 121) "java/lang/String" "value" "[B") (Jvm.Term.int 0)) (Jvm.Term.int 101)) ∈ flatA gvn [] := List.mem_of_getElem? (i := 348) (by decide +kernel)
theorem nw_349 : (Jvm.Cond.eq (Jvm.Term.elem (Jvm.Term.field (Jvm.Term.string "BeaconIndex$Tape" 121) "java/lang/String" "value" "[B") (Jvm.Term.int 1)) (Jvm.Term.int 100)) ∈ flatA gvn [] := List.mem_of_getElem? (i := 349) (by decide +kernel)
theorem nw_346 : (Jvm.Cond.arrayOf (Jvm.Term.field (Jvm.Term.string "BeaconIndex$Tape" 121) "java/lang/String" "value" "[B") Jvm.ClassFile.FieldType.byte) ∈ flatA gvn [] := List.mem_of_getElem? (i := 346) (by decide +kernel)
theorem nw_347 : (Jvm.Cond.eq (Jvm.Term.length (Jvm.Term.field (Jvm.Term.string "BeaconIndex$Tape" 121) "java/lang/String" "value" "[B")) (Jvm.Term.int 2)) ∈ flatA gvn [] := List.mem_of_getElem? (i := 347) (by decide +kernel)
theorem gk_13 {A : Array Value} {s : State} {G : XG} (hG : gs G = s) (hw : gvn.before A s = true) (hd : ∀ k, k ≠ 104 → gd G k = xad A s (xtmf k)) (hS : u_Kn s "java/lang/String" xF14 2 (gC G 14) (gI G 14)) (hA : ∀ t : Nat, xaok t = true → s.vm.findClass ("[" ++ (xaft t).toString) = some (gA G t)) : gd G 13 < gB G ∧ xCRw G s.heap (gd G 13) 103 2 (xpl xH0 (-15)) := by
  refine ga_arr hG (tm := (Jvm.Term.field (Jvm.Term.string "BeaconIndex$Tape" 121) "java/lang/String" "value" "[B")) (nm := "[B") (t := 103) (N := 2) [101, 100] (by decide) (by decide) (fun _ => trivial) (by decide) (gw_of hw nw_346) (gw_of hw nw_347) ?_ (by decide +kernel) (fun _ => ⟨gw_of hw nw_638, by have := hA 103 rfl; rw [← this]; rfl⟩) (hd 13 (by decide))
  intro j hj
  match j, hj with
  | 0, _ => exact (va_eqt (gw_of hw nw_348)).trans (congrArg (fun z => some (Value.int z)) (by decide : (101 : Int32) = Int32.ofInt 101))
  | 1, _ => exact (va_eqt (gw_of hw nw_349)).trans (congrArg (fun z => some (Value.int z)) (by decide : (100 : Int32) = Int32.ofInt 100))
  | n + 2, h => exact absurd h (by omega)
theorem nw_350 : (Jvm.Cond.exactly (Jvm.Term.string "BeaconIndex$Tape" 82) "java/lang/String") ∈ flatA gvn [] := List.mem_of_getElem? (i := 350) (by decide +kernel)
theorem nw_351 : (Jvm.Cond.eq (Jvm.Term.field (Jvm.Term.string "BeaconIndex$Tape" 82) "java/lang/String" "coder" "B") (Jvm.Term.int 0)) ∈ flatA gvn [] := List.mem_of_getElem? (i := 351) (by decide +kernel)
theorem nw_639 : (Jvm.Cond.exactly (Jvm.Term.field (Jvm.Term.string "BeaconIndex$Tape" 82) "java/lang/String" "value" "[B") "[B") ∈ flatA gvn [] := List.mem_of_getElem? (i := 639) (by decide +kernel)
theorem gk_14 {A : Array Value} {s : State} {G : XG} (hG : gs G = s) (hw : gvn.before A s = true) (hd : ∀ k, k ≠ 104 → gd G k = xad A s (xtmf k)) (hS : u_Kn s "java/lang/String" xF14 2 (gC G 14) (gI G 14)) (hA : ∀ t : Nat, xaok t = true → s.vm.findClass ("[" ++ (xaft t).toString) = some (gA G t)) : gd G 14 < gB G ∧ xCRw G s.heap (gd G 14) 14 2 (xpl xH0 (-16)) := ga_str hG hS (gw_of hw nw_350) (gw_of hw nw_351) (gw_of hw nw_639) (hd 14 (by decide)) (hd 15 (by decide)) (by decide +kernel) (by decide +kernel)
theorem nw_354 : (Jvm.Cond.eq (Jvm.Term.elem (Jvm.Term.field (Jvm.Term.string "BeaconIndex$Tape" 82) "java/lang/String" "value" "[B") (Jvm.Term.int 0)) (Jvm.Term.int 116)) ∈ flatA gvn [] := List.mem_of_getElem? (i := 354) (by decide +kernel)
theorem nw_355 : (Jvm.Cond.eq (Jvm.Term.elem (Jvm.Term.field (Jvm.Term.string "BeaconIndex$Tape" 82) "java/lang/String" "value" "[B") (Jvm.Term.int 1)) (Jvm.Term.int 104)) ∈ flatA gvn [] := List.mem_of_getElem? (i := 355) (by decide +kernel)
theorem nw_356 : (Jvm.Cond.eq (Jvm.Term.elem (Jvm.Term.field (Jvm.Term.string "BeaconIndex$Tape" 82) "java/lang/String" "value" "[B") (Jvm.Term.int 2)) (Jvm.Term.int 101)) ∈ flatA gvn [] := List.mem_of_getElem? (i := 356) (by decide +kernel)
theorem nw_352 : (Jvm.Cond.arrayOf (Jvm.Term.field (Jvm.Term.string "BeaconIndex$Tape" 82) "java/lang/String" "value" "[B") Jvm.ClassFile.FieldType.byte) ∈ flatA gvn [] := List.mem_of_getElem? (i := 352) (by decide +kernel)
theorem nw_353 : (Jvm.Cond.eq (Jvm.Term.length (Jvm.Term.field (Jvm.Term.string "BeaconIndex$Tape" 82) "java/lang/String" "value" "[B")) (Jvm.Term.int 3)) ∈ flatA gvn [] := List.mem_of_getElem? (i := 353) (by decide +kernel)
theorem gk_15 {A : Array Value} {s : State} {G : XG} (hG : gs G = s) (hw : gvn.before A s = true) (hd : ∀ k, k ≠ 104 → gd G k = xad A s (xtmf k)) (hS : u_Kn s "java/lang/String" xF14 2 (gC G 14) (gI G 14)) (hA : ∀ t : Nat, xaok t = true → s.vm.findClass ("[" ++ (xaft t).toString) = some (gA G t)) : gd G 15 < gB G ∧ xCRw G s.heap (gd G 15) 103 3 (xpl xH0 (-17)) := by
  refine ga_arr hG (tm := (Jvm.Term.field (Jvm.Term.string "BeaconIndex$Tape" 82) "java/lang/String" "value" "[B")) (nm := "[B") (t := 103) (N := 3) [116, 104, 101] (by decide) (by decide) (fun _ => trivial) (by decide) (gw_of hw nw_352) (gw_of hw nw_353) ?_ (by decide +kernel) (fun _ => ⟨gw_of hw nw_639, by have := hA 103 rfl; rw [← this]; rfl⟩) (hd 15 (by decide))
  intro j hj
  match j, hj with
  | 0, _ => exact (va_eqt (gw_of hw nw_354)).trans (congrArg (fun z => some (Value.int z)) (by decide : (116 : Int32) = Int32.ofInt 116))
  | 1, _ => exact (va_eqt (gw_of hw nw_355)).trans (congrArg (fun z => some (Value.int z)) (by decide : (104 : Int32) = Int32.ofInt 104))
  | 2, _ => exact (va_eqt (gw_of hw nw_356)).trans (congrArg (fun z => some (Value.int z)) (by decide : (101 : Int32) = Int32.ofInt 101))
  | n + 3, h => exact absurd h (by omega)
theorem nw_357 : (Jvm.Cond.exactly (Jvm.Term.string "BeaconIndex$Tape" 87) "java/lang/String") ∈ flatA gvn [] := List.mem_of_getElem? (i := 357) (by decide +kernel)
theorem nw_358 : (Jvm.Cond.eq (Jvm.Term.field (Jvm.Term.string "BeaconIndex$Tape" 87) "java/lang/String" "coder" "B") (Jvm.Term.int 0)) ∈ flatA gvn [] := List.mem_of_getElem? (i := 358) (by decide +kernel)
theorem nw_640 : (Jvm.Cond.exactly (Jvm.Term.field (Jvm.Term.string "BeaconIndex$Tape" 87) "java/lang/String" "value" "[B") "[B") ∈ flatA gvn [] := List.mem_of_getElem? (i := 640) (by decide +kernel)
theorem gk_16 {A : Array Value} {s : State} {G : XG} (hG : gs G = s) (hw : gvn.before A s = true) (hd : ∀ k, k ≠ 104 → gd G k = xad A s (xtmf k)) (hS : u_Kn s "java/lang/String" xF14 2 (gC G 14) (gI G 14)) (hA : ∀ t : Nat, xaok t = true → s.vm.findClass ("[" ++ (xaft t).toString) = some (gA G t)) : gd G 16 < gB G ∧ xCRw G s.heap (gd G 16) 14 2 (xpl xH0 (-18)) := ga_str hG hS (gw_of hw nw_357) (gw_of hw nw_358) (gw_of hw nw_640) (hd 16 (by decide)) (hd 17 (by decide)) (by decide +kernel) (by decide +kernel)
theorem nw_361 : (Jvm.Cond.eq (Jvm.Term.elem (Jvm.Term.field (Jvm.Term.string "BeaconIndex$Tape" 87) "java/lang/String" "value" "[B") (Jvm.Term.int 0)) (Jvm.Term.int 97)) ∈ flatA gvn [] := List.mem_of_getElem? (i := 361) (by decide +kernel)
theorem nw_359 : (Jvm.Cond.arrayOf (Jvm.Term.field (Jvm.Term.string "BeaconIndex$Tape" 87) "java/lang/String" "value" "[B") Jvm.ClassFile.FieldType.byte) ∈ flatA gvn [] := List.mem_of_getElem? (i := 359) (by decide +kernel)
theorem nw_360 : (Jvm.Cond.eq (Jvm.Term.length (Jvm.Term.field (Jvm.Term.string "BeaconIndex$Tape" 87) "java/lang/String" "value" "[B")) (Jvm.Term.int 1)) ∈ flatA gvn [] := List.mem_of_getElem? (i := 360) (by decide +kernel)
theorem gk_17 {A : Array Value} {s : State} {G : XG} (hG : gs G = s) (hw : gvn.before A s = true) (hd : ∀ k, k ≠ 104 → gd G k = xad A s (xtmf k)) (hS : u_Kn s "java/lang/String" xF14 2 (gC G 14) (gI G 14)) (hA : ∀ t : Nat, xaok t = true → s.vm.findClass ("[" ++ (xaft t).toString) = some (gA G t)) : gd G 17 < gB G ∧ xCRw G s.heap (gd G 17) 103 1 (xpl xH0 (-19)) := by
  refine ga_arr hG (tm := (Jvm.Term.field (Jvm.Term.string "BeaconIndex$Tape" 87) "java/lang/String" "value" "[B")) (nm := "[B") (t := 103) (N := 1) [97] (by decide) (by decide) (fun _ => trivial) (by decide) (gw_of hw nw_359) (gw_of hw nw_360) ?_ (by decide +kernel) (fun _ => ⟨gw_of hw nw_640, by have := hA 103 rfl; rw [← this]; rfl⟩) (hd 17 (by decide))
  intro j hj
  match j, hj with
  | 0, _ => exact (va_eqt (gw_of hw nw_361)).trans (congrArg (fun z => some (Value.int z)) (by decide : (97 : Int32) = Int32.ofInt 97))
  | n + 1, h => exact absurd h (by omega)
theorem nw_362 : (Jvm.Cond.exactly (Jvm.Term.string "BeaconIndex$Tape" 89) "java/lang/String") ∈ flatA gvn [] := List.mem_of_getElem? (i := 362) (by decide +kernel)
theorem nw_363 : (Jvm.Cond.eq (Jvm.Term.field (Jvm.Term.string "BeaconIndex$Tape" 89) "java/lang/String" "coder" "B") (Jvm.Term.int 0)) ∈ flatA gvn [] := List.mem_of_getElem? (i := 363) (by decide +kernel)
theorem nw_641 : (Jvm.Cond.exactly (Jvm.Term.field (Jvm.Term.string "BeaconIndex$Tape" 89) "java/lang/String" "value" "[B") "[B") ∈ flatA gvn [] := List.mem_of_getElem? (i := 641) (by decide +kernel)
theorem gk_18 {A : Array Value} {s : State} {G : XG} (hG : gs G = s) (hw : gvn.before A s = true) (hd : ∀ k, k ≠ 104 → gd G k = xad A s (xtmf k)) (hS : u_Kn s "java/lang/String" xF14 2 (gC G 14) (gI G 14)) (hA : ∀ t : Nat, xaok t = true → s.vm.findClass ("[" ++ (xaft t).toString) = some (gA G t)) : gd G 18 < gB G ∧ xCRw G s.heap (gd G 18) 14 2 (xpl xH0 (-20)) := ga_str hG hS (gw_of hw nw_362) (gw_of hw nw_363) (gw_of hw nw_641) (hd 18 (by decide)) (hd 19 (by decide)) (by decide +kernel) (by decide +kernel)
theorem nw_366 : (Jvm.Cond.eq (Jvm.Term.elem (Jvm.Term.field (Jvm.Term.string "BeaconIndex$Tape" 89) "java/lang/String" "value" "[B") (Jvm.Term.int 0)) (Jvm.Term.int 97)) ∈ flatA gvn [] := List.mem_of_getElem? (i := 366) (by decide +kernel)
theorem nw_367 : (Jvm.Cond.eq (Jvm.Term.elem (Jvm.Term.field (Jvm.Term.string "BeaconIndex$Tape" 89) "java/lang/String" "value" "[B") (Jvm.Term.int 1)) (Jvm.Term.int 110)) ∈ flatA gvn [] := List.mem_of_getElem? (i := 367) (by decide +kernel)
theorem nw_364 : (Jvm.Cond.arrayOf (Jvm.Term.field (Jvm.Term.string "BeaconIndex$Tape" 89) "java/lang/String" "value" "[B") Jvm.ClassFile.FieldType.byte) ∈ flatA gvn [] := List.mem_of_getElem? (i := 364) (by decide +kernel)
theorem nw_365 : (Jvm.Cond.eq (Jvm.Term.length (Jvm.Term.field (Jvm.Term.string "BeaconIndex$Tape" 89) "java/lang/String" "value" "[B")) (Jvm.Term.int 2)) ∈ flatA gvn [] := List.mem_of_getElem? (i := 365) (by decide +kernel)
theorem gk_19 {A : Array Value} {s : State} {G : XG} (hG : gs G = s) (hw : gvn.before A s = true) (hd : ∀ k, k ≠ 104 → gd G k = xad A s (xtmf k)) (hS : u_Kn s "java/lang/String" xF14 2 (gC G 14) (gI G 14)) (hA : ∀ t : Nat, xaok t = true → s.vm.findClass ("[" ++ (xaft t).toString) = some (gA G t)) : gd G 19 < gB G ∧ xCRw G s.heap (gd G 19) 103 2 (xpl xH0 (-21)) := by
  refine ga_arr hG (tm := (Jvm.Term.field (Jvm.Term.string "BeaconIndex$Tape" 89) "java/lang/String" "value" "[B")) (nm := "[B") (t := 103) (N := 2) [97, 110] (by decide) (by decide) (fun _ => trivial) (by decide) (gw_of hw nw_364) (gw_of hw nw_365) ?_ (by decide +kernel) (fun _ => ⟨gw_of hw nw_641, by have := hA 103 rfl; rw [← this]; rfl⟩) (hd 19 (by decide))
  intro j hj
  match j, hj with
  | 0, _ => exact (va_eqt (gw_of hw nw_366)).trans (congrArg (fun z => some (Value.int z)) (by decide : (97 : Int32) = Int32.ofInt 97))
  | 1, _ => exact (va_eqt (gw_of hw nw_367)).trans (congrArg (fun z => some (Value.int z)) (by decide : (110 : Int32) = Int32.ofInt 110))
  | n + 2, h => exact absurd h (by omega)
theorem nw_368 : (Jvm.Cond.exactly (Jvm.Term.string "BeaconIndex$Tape" 91) "java/lang/String") ∈ flatA gvn [] := List.mem_of_getElem? (i := 368) (by decide +kernel)
theorem nw_369 : (Jvm.Cond.eq (Jvm.Term.field (Jvm.Term.string "BeaconIndex$Tape" 91) "java/lang/String" "coder" "B") (Jvm.Term.int 0)) ∈ flatA gvn [] := List.mem_of_getElem? (i := 369) (by decide +kernel)
theorem nw_642 : (Jvm.Cond.exactly (Jvm.Term.field (Jvm.Term.string "BeaconIndex$Tape" 91) "java/lang/String" "value" "[B") "[B") ∈ flatA gvn [] := List.mem_of_getElem? (i := 642) (by decide +kernel)
theorem gk_20 {A : Array Value} {s : State} {G : XG} (hG : gs G = s) (hw : gvn.before A s = true) (hd : ∀ k, k ≠ 104 → gd G k = xad A s (xtmf k)) (hS : u_Kn s "java/lang/String" xF14 2 (gC G 14) (gI G 14)) (hA : ∀ t : Nat, xaok t = true → s.vm.findClass ("[" ++ (xaft t).toString) = some (gA G t)) : gd G 20 < gB G ∧ xCRw G s.heap (gd G 20) 14 2 (xpl xH0 (-22)) := ga_str hG hS (gw_of hw nw_368) (gw_of hw nw_369) (gw_of hw nw_642) (hd 20 (by decide)) (hd 21 (by decide)) (by decide +kernel) (by decide +kernel)
theorem nw_372 : (Jvm.Cond.eq (Jvm.Term.elem (Jvm.Term.field (Jvm.Term.string "BeaconIndex$Tape" 91) "java/lang/String" "value" "[B") (Jvm.Term.int 0)) (Jvm.Term.int 111)) ∈ flatA gvn [] := List.mem_of_getElem? (i := 372) (by decide +kernel)
theorem nw_373 : (Jvm.Cond.eq (Jvm.Term.elem (Jvm.Term.field (Jvm.Term.string "BeaconIndex$Tape" 91) "java/lang/String" "value" "[B") (Jvm.Term.int 1)) (Jvm.Term.int 102)) ∈ flatA gvn [] := List.mem_of_getElem? (i := 373) (by decide +kernel)
theorem nw_370 : (Jvm.Cond.arrayOf (Jvm.Term.field (Jvm.Term.string "BeaconIndex$Tape" 91) "java/lang/String" "value" "[B") Jvm.ClassFile.FieldType.byte) ∈ flatA gvn [] := List.mem_of_getElem? (i := 370) (by decide +kernel)
theorem nw_371 : (Jvm.Cond.eq (Jvm.Term.length (Jvm.Term.field (Jvm.Term.string "BeaconIndex$Tape" 91) "java/lang/String" "value" "[B")) (Jvm.Term.int 2)) ∈ flatA gvn [] := List.mem_of_getElem? (i := 371) (by decide +kernel)
theorem gk_21 {A : Array Value} {s : State} {G : XG} (hG : gs G = s) (hw : gvn.before A s = true) (hd : ∀ k, k ≠ 104 → gd G k = xad A s (xtmf k)) (hS : u_Kn s "java/lang/String" xF14 2 (gC G 14) (gI G 14)) (hA : ∀ t : Nat, xaok t = true → s.vm.findClass ("[" ++ (xaft t).toString) = some (gA G t)) : gd G 21 < gB G ∧ xCRw G s.heap (gd G 21) 103 2 (xpl xH0 (-23)) := by
  refine ga_arr hG (tm := (Jvm.Term.field (Jvm.Term.string "BeaconIndex$Tape" 91) "java/lang/String" "value" "[B")) (nm := "[B") (t := 103) (N := 2) [111, 102] (by decide) (by decide) (fun _ => trivial) (by decide) (gw_of hw nw_370) (gw_of hw nw_371) ?_ (by decide +kernel) (fun _ => ⟨gw_of hw nw_642, by have := hA 103 rfl; rw [← this]; rfl⟩) (hd 21 (by decide))
  intro j hj
  match j, hj with
  | 0, _ => exact (va_eqt (gw_of hw nw_372)).trans (congrArg (fun z => some (Value.int z)) (by decide : (111 : Int32) = Int32.ofInt 111))
  | 1, _ => exact (va_eqt (gw_of hw nw_373)).trans (congrArg (fun z => some (Value.int z)) (by decide : (102 : Int32) = Int32.ofInt 102))
  | n + 2, h => exact absurd h (by omega)
theorem nw_374 : (Jvm.Cond.exactly (Jvm.Term.string "BeaconIndex$Tape" 93) "java/lang/String") ∈ flatA gvn [] := List.mem_of_getElem? (i := 374) (by decide +kernel)
theorem nw_375 : (Jvm.Cond.eq (Jvm.Term.field (Jvm.Term.string "BeaconIndex$Tape" 93) "java/lang/String" "coder" "B") (Jvm.Term.int 0)) ∈ flatA gvn [] := List.mem_of_getElem? (i := 375) (by decide +kernel)
theorem nw_643 : (Jvm.Cond.exactly (Jvm.Term.field (Jvm.Term.string "BeaconIndex$Tape" 93) "java/lang/String" "value" "[B") "[B") ∈ flatA gvn [] := List.mem_of_getElem? (i := 643) (by decide +kernel)
theorem gk_22 {A : Array Value} {s : State} {G : XG} (hG : gs G = s) (hw : gvn.before A s = true) (hd : ∀ k, k ≠ 104 → gd G k = xad A s (xtmf k)) (hS : u_Kn s "java/lang/String" xF14 2 (gC G 14) (gI G 14)) (hA : ∀ t : Nat, xaok t = true → s.vm.findClass ("[" ++ (xaft t).toString) = some (gA G t)) : gd G 22 < gB G ∧ xCRw G s.heap (gd G 22) 14 2 (xpl xH0 (-24)) := ga_str hG hS (gw_of hw nw_374) (gw_of hw nw_375) (gw_of hw nw_643) (hd 22 (by decide)) (hd 23 (by decide)) (by decide +kernel) (by decide +kernel)
theorem nw_378 : (Jvm.Cond.eq (Jvm.Term.elem (Jvm.Term.field (Jvm.Term.string "BeaconIndex$Tape" 93) "java/lang/String" "value" "[B") (Jvm.Term.int 0)) (Jvm.Term.int 97)) ∈ flatA gvn [] := List.mem_of_getElem? (i := 378) (by decide +kernel)
theorem nw_379 : (Jvm.Cond.eq (Jvm.Term.elem (Jvm.Term.field (Jvm.Term.string "BeaconIndex$Tape" 93) "java/lang/String" "value" "[B") (Jvm.Term.int 1)) (Jvm.Term.int 110)) ∈ flatA gvn [] := List.mem_of_getElem? (i := 379) (by decide +kernel)
theorem nw_380 : (Jvm.Cond.eq (Jvm.Term.elem (Jvm.Term.field (Jvm.Term.string "BeaconIndex$Tape" 93) "java/lang/String" "value" "[B") (Jvm.Term.int 2)) (Jvm.Term.int 100)) ∈ flatA gvn [] := List.mem_of_getElem? (i := 380) (by decide +kernel)
theorem nw_376 : (Jvm.Cond.arrayOf (Jvm.Term.field (Jvm.Term.string "BeaconIndex$Tape" 93) "java/lang/String" "value" "[B") Jvm.ClassFile.FieldType.byte) ∈ flatA gvn [] := List.mem_of_getElem? (i := 376) (by decide +kernel)
theorem nw_377 : (Jvm.Cond.eq (Jvm.Term.length (Jvm.Term.field (Jvm.Term.string "BeaconIndex$Tape" 93) "java/lang/String" "value" "[B")) (Jvm.Term.int 3)) ∈ flatA gvn [] := List.mem_of_getElem? (i := 377) (by decide +kernel)
theorem gk_23 {A : Array Value} {s : State} {G : XG} (hG : gs G = s) (hw : gvn.before A s = true) (hd : ∀ k, k ≠ 104 → gd G k = xad A s (xtmf k)) (hS : u_Kn s "java/lang/String" xF14 2 (gC G 14) (gI G 14)) (hA : ∀ t : Nat, xaok t = true → s.vm.findClass ("[" ++ (xaft t).toString) = some (gA G t)) : gd G 23 < gB G ∧ xCRw G s.heap (gd G 23) 103 3 (xpl xH0 (-25)) := by
  refine ga_arr hG (tm := (Jvm.Term.field (Jvm.Term.string "BeaconIndex$Tape" 93) "java/lang/String" "value" "[B")) (nm := "[B") (t := 103) (N := 3) [97, 110, 100] (by decide) (by decide) (fun _ => trivial) (by decide) (gw_of hw nw_376) (gw_of hw nw_377) ?_ (by decide +kernel) (fun _ => ⟨gw_of hw nw_643, by have := hA 103 rfl; rw [← this]; rfl⟩) (hd 23 (by decide))
  intro j hj
  match j, hj with
  | 0, _ => exact (va_eqt (gw_of hw nw_378)).trans (congrArg (fun z => some (Value.int z)) (by decide : (97 : Int32) = Int32.ofInt 97))
  | 1, _ => exact (va_eqt (gw_of hw nw_379)).trans (congrArg (fun z => some (Value.int z)) (by decide : (110 : Int32) = Int32.ofInt 110))
  | 2, _ => exact (va_eqt (gw_of hw nw_380)).trans (congrArg (fun z => some (Value.int z)) (by decide : (100 : Int32) = Int32.ofInt 100))
  | n + 3, h => exact absurd h (by omega)
theorem nw_381 : (Jvm.Cond.exactly (Jvm.Term.string "BeaconIndex$Tape" 95) "java/lang/String") ∈ flatA gvn [] := List.mem_of_getElem? (i := 381) (by decide +kernel)
theorem nw_382 : (Jvm.Cond.eq (Jvm.Term.field (Jvm.Term.string "BeaconIndex$Tape" 95) "java/lang/String" "coder" "B") (Jvm.Term.int 0)) ∈ flatA gvn [] := List.mem_of_getElem? (i := 382) (by decide +kernel)
theorem nw_644 : (Jvm.Cond.exactly (Jvm.Term.field (Jvm.Term.string "BeaconIndex$Tape" 95) "java/lang/String" "value" "[B") "[B") ∈ flatA gvn [] := List.mem_of_getElem? (i := 644) (by decide +kernel)
theorem gk_24 {A : Array Value} {s : State} {G : XG} (hG : gs G = s) (hw : gvn.before A s = true) (hd : ∀ k, k ≠ 104 → gd G k = xad A s (xtmf k)) (hS : u_Kn s "java/lang/String" xF14 2 (gC G 14) (gI G 14)) (hA : ∀ t : Nat, xaok t = true → s.vm.findClass ("[" ++ (xaft t).toString) = some (gA G t)) : gd G 24 < gB G ∧ xCRw G s.heap (gd G 24) 14 2 (xpl xH0 (-26)) := ga_str hG hS (gw_of hw nw_381) (gw_of hw nw_382) (gw_of hw nw_644) (hd 24 (by decide)) (hd 25 (by decide)) (by decide +kernel) (by decide +kernel)
theorem nw_385 : (Jvm.Cond.eq (Jvm.Term.elem (Jvm.Term.field (Jvm.Term.string "BeaconIndex$Tape" 95) "java/lang/String" "value" "[B") (Jvm.Term.int 0)) (Jvm.Term.int 111)) ∈ flatA gvn [] := List.mem_of_getElem? (i := 385) (by decide +kernel)
theorem nw_386 : (Jvm.Cond.eq (Jvm.Term.elem (Jvm.Term.field (Jvm.Term.string "BeaconIndex$Tape" 95) "java/lang/String" "value" "[B") (Jvm.Term.int 1)) (Jvm.Term.int 114)) ∈ flatA gvn [] := List.mem_of_getElem? (i := 386) (by decide +kernel)
theorem nw_383 : (Jvm.Cond.arrayOf (Jvm.Term.field (Jvm.Term.string "BeaconIndex$Tape" 95) "java/lang/String" "value" "[B") Jvm.ClassFile.FieldType.byte) ∈ flatA gvn [] := List.mem_of_getElem? (i := 383) (by decide +kernel)
theorem nw_384 : (Jvm.Cond.eq (Jvm.Term.length (Jvm.Term.field (Jvm.Term.string "BeaconIndex$Tape" 95) "java/lang/String" "value" "[B")) (Jvm.Term.int 2)) ∈ flatA gvn [] := List.mem_of_getElem? (i := 384) (by decide +kernel)
theorem gk_25 {A : Array Value} {s : State} {G : XG} (hG : gs G = s) (hw : gvn.before A s = true) (hd : ∀ k, k ≠ 104 → gd G k = xad A s (xtmf k)) (hS : u_Kn s "java/lang/String" xF14 2 (gC G 14) (gI G 14)) (hA : ∀ t : Nat, xaok t = true → s.vm.findClass ("[" ++ (xaft t).toString) = some (gA G t)) : gd G 25 < gB G ∧ xCRw G s.heap (gd G 25) 103 2 (xpl xH0 (-27)) := by
  refine ga_arr hG (tm := (Jvm.Term.field (Jvm.Term.string "BeaconIndex$Tape" 95) "java/lang/String" "value" "[B")) (nm := "[B") (t := 103) (N := 2) [111, 114] (by decide) (by decide) (fun _ => trivial) (by decide) (gw_of hw nw_383) (gw_of hw nw_384) ?_ (by decide +kernel) (fun _ => ⟨gw_of hw nw_644, by have := hA 103 rfl; rw [← this]; rfl⟩) (hd 25 (by decide))
  intro j hj
  match j, hj with
  | 0, _ => exact (va_eqt (gw_of hw nw_385)).trans (congrArg (fun z => some (Value.int z)) (by decide : (111 : Int32) = Int32.ofInt 111))
  | 1, _ => exact (va_eqt (gw_of hw nw_386)).trans (congrArg (fun z => some (Value.int z)) (by decide : (114 : Int32) = Int32.ofInt 114))
  | n + 2, h => exact absurd h (by omega)
theorem nw_387 : (Jvm.Cond.exactly (Jvm.Term.string "BeaconIndex$Tape" 97) "java/lang/String") ∈ flatA gvn [] := List.mem_of_getElem? (i := 387) (by decide +kernel)
theorem nw_388 : (Jvm.Cond.eq (Jvm.Term.field (Jvm.Term.string "BeaconIndex$Tape" 97) "java/lang/String" "coder" "B") (Jvm.Term.int 0)) ∈ flatA gvn [] := List.mem_of_getElem? (i := 388) (by decide +kernel)
theorem nw_645 : (Jvm.Cond.exactly (Jvm.Term.field (Jvm.Term.string "BeaconIndex$Tape" 97) "java/lang/String" "value" "[B") "[B") ∈ flatA gvn [] := List.mem_of_getElem? (i := 645) (by decide +kernel)
theorem gk_26 {A : Array Value} {s : State} {G : XG} (hG : gs G = s) (hw : gvn.before A s = true) (hd : ∀ k, k ≠ 104 → gd G k = xad A s (xtmf k)) (hS : u_Kn s "java/lang/String" xF14 2 (gC G 14) (gI G 14)) (hA : ∀ t : Nat, xaok t = true → s.vm.findClass ("[" ++ (xaft t).toString) = some (gA G t)) : gd G 26 < gB G ∧ xCRw G s.heap (gd G 26) 14 2 (xpl xH0 (-28)) := ga_str hG hS (gw_of hw nw_387) (gw_of hw nw_388) (gw_of hw nw_645) (hd 26 (by decide)) (hd 27 (by decide)) (by decide +kernel) (by decide +kernel)
theorem nw_391 : (Jvm.Cond.eq (Jvm.Term.elem (Jvm.Term.field (Jvm.Term.string "BeaconIndex$Tape" 97) "java/lang/String" "value" "[B") (Jvm.Term.int 0)) (Jvm.Term.int 116)) ∈ flatA gvn [] := List.mem_of_getElem? (i := 391) (by decide +kernel)
theorem nw_392 : (Jvm.Cond.eq (Jvm.Term.elem (Jvm.Term.field (Jvm.Term.string "BeaconIndex$Tape" 97) "java/lang/String" "value" "[B") (Jvm.Term.int 1)) (Jvm.Term.int 111)) ∈ flatA gvn [] := List.mem_of_getElem? (i := 392) (by decide +kernel)
theorem nw_389 : (Jvm.Cond.arrayOf (Jvm.Term.field (Jvm.Term.string "BeaconIndex$Tape" 97) "java/lang/String" "value" "[B") Jvm.ClassFile.FieldType.byte) ∈ flatA gvn [] := List.mem_of_getElem? (i := 389) (by decide +kernel)
theorem nw_390 : (Jvm.Cond.eq (Jvm.Term.length (Jvm.Term.field (Jvm.Term.string "BeaconIndex$Tape" 97) "java/lang/String" "value" "[B")) (Jvm.Term.int 2)) ∈ flatA gvn [] := List.mem_of_getElem? (i := 390) (by decide +kernel)
theorem gk_27 {A : Array Value} {s : State} {G : XG} (hG : gs G = s) (hw : gvn.before A s = true) (hd : ∀ k, k ≠ 104 → gd G k = xad A s (xtmf k)) (hS : u_Kn s "java/lang/String" xF14 2 (gC G 14) (gI G 14)) (hA : ∀ t : Nat, xaok t = true → s.vm.findClass ("[" ++ (xaft t).toString) = some (gA G t)) : gd G 27 < gB G ∧ xCRw G s.heap (gd G 27) 103 2 (xpl xH0 (-29)) := by
  refine ga_arr hG (tm := (Jvm.Term.field (Jvm.Term.string "BeaconIndex$Tape" 97) "java/lang/String" "value" "[B")) (nm := "[B") (t := 103) (N := 2) [116, 111] (by decide) (by decide) (fun _ => trivial) (by decide) (gw_of hw nw_389) (gw_of hw nw_390) ?_ (by decide +kernel) (fun _ => ⟨gw_of hw nw_645, by have := hA 103 rfl; rw [← this]; rfl⟩) (hd 27 (by decide))
  intro j hj
  match j, hj with
  | 0, _ => exact (va_eqt (gw_of hw nw_391)).trans (congrArg (fun z => some (Value.int z)) (by decide : (116 : Int32) = Int32.ofInt 116))
  | 1, _ => exact (va_eqt (gw_of hw nw_392)).trans (congrArg (fun z => some (Value.int z)) (by decide : (111 : Int32) = Int32.ofInt 111))
  | n + 2, h => exact absurd h (by omega)
theorem nw_393 : (Jvm.Cond.exactly (Jvm.Term.string "BeaconIndex$Tape" 99) "java/lang/String") ∈ flatA gvn [] := List.mem_of_getElem? (i := 393) (by decide +kernel)
theorem nw_394 : (Jvm.Cond.eq (Jvm.Term.field (Jvm.Term.string "BeaconIndex$Tape" 99) "java/lang/String" "coder" "B") (Jvm.Term.int 0)) ∈ flatA gvn [] := List.mem_of_getElem? (i := 394) (by decide +kernel)
theorem nw_646 : (Jvm.Cond.exactly (Jvm.Term.field (Jvm.Term.string "BeaconIndex$Tape" 99) "java/lang/String" "value" "[B") "[B") ∈ flatA gvn [] := List.mem_of_getElem? (i := 646) (by decide +kernel)
theorem gk_28 {A : Array Value} {s : State} {G : XG} (hG : gs G = s) (hw : gvn.before A s = true) (hd : ∀ k, k ≠ 104 → gd G k = xad A s (xtmf k)) (hS : u_Kn s "java/lang/String" xF14 2 (gC G 14) (gI G 14)) (hA : ∀ t : Nat, xaok t = true → s.vm.findClass ("[" ++ (xaft t).toString) = some (gA G t)) : gd G 28 < gB G ∧ xCRw G s.heap (gd G 28) 14 2 (xpl xH0 (-30)) := ga_str hG hS (gw_of hw nw_393) (gw_of hw nw_394) (gw_of hw nw_646) (hd 28 (by decide)) (hd 29 (by decide)) (by decide +kernel) (by decide +kernel)
theorem nw_397 : (Jvm.Cond.eq (Jvm.Term.elem (Jvm.Term.field (Jvm.Term.string "BeaconIndex$Tape" 99) "java/lang/String" "value" "[B") (Jvm.Term.int 0)) (Jvm.Term.int 105)) ∈ flatA gvn [] := List.mem_of_getElem? (i := 397) (by decide +kernel)
theorem nw_398 : (Jvm.Cond.eq (Jvm.Term.elem (Jvm.Term.field (Jvm.Term.string "BeaconIndex$Tape" 99) "java/lang/String" "value" "[B") (Jvm.Term.int 1)) (Jvm.Term.int 110)) ∈ flatA gvn [] := List.mem_of_getElem? (i := 398) (by decide +kernel)
theorem nw_395 : (Jvm.Cond.arrayOf (Jvm.Term.field (Jvm.Term.string "BeaconIndex$Tape" 99) "java/lang/String" "value" "[B") Jvm.ClassFile.FieldType.byte) ∈ flatA gvn [] := List.mem_of_getElem? (i := 395) (by decide +kernel)
theorem nw_396 : (Jvm.Cond.eq (Jvm.Term.length (Jvm.Term.field (Jvm.Term.string "BeaconIndex$Tape" 99) "java/lang/String" "value" "[B")) (Jvm.Term.int 2)) ∈ flatA gvn [] := List.mem_of_getElem? (i := 396) (by decide +kernel)
theorem gk_29 {A : Array Value} {s : State} {G : XG} (hG : gs G = s) (hw : gvn.before A s = true) (hd : ∀ k, k ≠ 104 → gd G k = xad A s (xtmf k)) (hS : u_Kn s "java/lang/String" xF14 2 (gC G 14) (gI G 14)) (hA : ∀ t : Nat, xaok t = true → s.vm.findClass ("[" ++ (xaft t).toString) = some (gA G t)) : gd G 29 < gB G ∧ xCRw G s.heap (gd G 29) 103 2 (xpl xH0 (-31)) := by
  refine ga_arr hG (tm := (Jvm.Term.field (Jvm.Term.string "BeaconIndex$Tape" 99) "java/lang/String" "value" "[B")) (nm := "[B") (t := 103) (N := 2) [105, 110] (by decide) (by decide) (fun _ => trivial) (by decide) (gw_of hw nw_395) (gw_of hw nw_396) ?_ (by decide +kernel) (fun _ => ⟨gw_of hw nw_646, by have := hA 103 rfl; rw [← this]; rfl⟩) (hd 29 (by decide))
  intro j hj
  match j, hj with
  | 0, _ => exact (va_eqt (gw_of hw nw_397)).trans (congrArg (fun z => some (Value.int z)) (by decide : (105 : Int32) = Int32.ofInt 105))
  | 1, _ => exact (va_eqt (gw_of hw nw_398)).trans (congrArg (fun z => some (Value.int z)) (by decide : (110 : Int32) = Int32.ofInt 110))
  | n + 2, h => exact absurd h (by omega)
theorem nw_399 : (Jvm.Cond.exactly (Jvm.Term.string "BeaconIndex$QuestionReader" 190) "java/lang/String") ∈ flatA gvn [] := List.mem_of_getElem? (i := 399) (by decide +kernel)
theorem nw_400 : (Jvm.Cond.eq (Jvm.Term.field (Jvm.Term.string "BeaconIndex$QuestionReader" 190) "java/lang/String" "coder" "B") (Jvm.Term.int 0)) ∈ flatA gvn [] := List.mem_of_getElem? (i := 400) (by decide +kernel)
theorem nw_647 : (Jvm.Cond.exactly (Jvm.Term.field (Jvm.Term.string "BeaconIndex$QuestionReader" 190) "java/lang/String" "value" "[B") "[B") ∈ flatA gvn [] := List.mem_of_getElem? (i := 647) (by decide +kernel)
theorem gk_30 {A : Array Value} {s : State} {G : XG} (hG : gs G = s) (hw : gvn.before A s = true) (hd : ∀ k, k ≠ 104 → gd G k = xad A s (xtmf k)) (hS : u_Kn s "java/lang/String" xF14 2 (gC G 14) (gI G 14)) (hA : ∀ t : Nat, xaok t = true → s.vm.findClass ("[" ++ (xaft t).toString) = some (gA G t)) : gd G 30 < gB G ∧ xCRw G s.heap (gd G 30) 14 2 (xpl xH0 (-32)) := ga_str hG hS (gw_of hw nw_399) (gw_of hw nw_400) (gw_of hw nw_647) (hd 30 (by decide)) (hd 31 (by decide)) (by decide +kernel) (by decide +kernel)
theorem nw_403 : (Jvm.Cond.eq (Jvm.Term.elem (Jvm.Term.field (Jvm.Term.string "BeaconIndex$QuestionReader" 190) "java/lang/String" "value" "[B") (Jvm.Term.int 0)) (Jvm.Term.int 116)) ∈ flatA gvn [] := List.mem_of_getElem? (i := 403) (by decide +kernel)
theorem nw_404 : (Jvm.Cond.eq (Jvm.Term.elem (Jvm.Term.field (Jvm.Term.string "BeaconIndex$QuestionReader" 190) "java/lang/String" "value" "[B") (Jvm.Term.int 1)) (Jvm.Term.int 105)) ∈ flatA gvn [] := List.mem_of_getElem? (i := 404) (by decide +kernel)
theorem nw_405 : (Jvm.Cond.eq (Jvm.Term.elem (Jvm.Term.field (Jvm.Term.string "BeaconIndex$QuestionReader" 190) "java/lang/String" "value" "[B") (Jvm.Term.int 2)) (Jvm.Term.int 116)) ∈ flatA gvn [] := List.mem_of_getElem? (i := 405) (by decide +kernel)
theorem nw_406 : (Jvm.Cond.eq (Jvm.Term.elem (Jvm.Term.field (Jvm.Term.string "BeaconIndex$QuestionReader" 190) "java/lang/String" "value" "[B") (Jvm.Term.int 3)) (Jvm.Term.int 108)) ∈ flatA gvn [] := List.mem_of_getElem? (i := 406) (by decide +kernel)
theorem nw_407 : (Jvm.Cond.eq (Jvm.Term.elem (Jvm.Term.field (Jvm.Term.string "BeaconIndex$QuestionReader" 190) "java/lang/String" "value" "[B") (Jvm.Term.int 4)) (Jvm.Term.int 101)) ∈ flatA gvn [] := List.mem_of_getElem? (i := 407) (by decide +kernel)
theorem nw_401 : (Jvm.Cond.arrayOf (Jvm.Term.field (Jvm.Term.string "BeaconIndex$QuestionReader" 190) "java/lang/String" "value" "[B") Jvm.ClassFile.FieldType.byte) ∈ flatA gvn [] := List.mem_of_getElem? (i := 401) (by decide +kernel)
theorem nw_402 : (Jvm.Cond.eq (Jvm.Term.length (Jvm.Term.field (Jvm.Term.string "BeaconIndex$QuestionReader" 190) "java/lang/String" "value" "[B")) (Jvm.Term.int 5)) ∈ flatA gvn [] := List.mem_of_getElem? (i := 402) (by decide +kernel)
theorem gk_31 {A : Array Value} {s : State} {G : XG} (hG : gs G = s) (hw : gvn.before A s = true) (hd : ∀ k, k ≠ 104 → gd G k = xad A s (xtmf k)) (hS : u_Kn s "java/lang/String" xF14 2 (gC G 14) (gI G 14)) (hA : ∀ t : Nat, xaok t = true → s.vm.findClass ("[" ++ (xaft t).toString) = some (gA G t)) : gd G 31 < gB G ∧ xCRw G s.heap (gd G 31) 103 5 (xpl xH0 (-33)) := by
  refine ga_arr hG (tm := (Jvm.Term.field (Jvm.Term.string "BeaconIndex$QuestionReader" 190) "java/lang/String" "value" "[B")) (nm := "[B") (t := 103) (N := 5) [116, 105, 116, 108, 101] (by decide) (by decide) (fun _ => trivial) (by decide) (gw_of hw nw_401) (gw_of hw nw_402) ?_ (by decide +kernel) (fun _ => ⟨gw_of hw nw_647, by have := hA 103 rfl; rw [← this]; rfl⟩) (hd 31 (by decide))
  intro j hj
  match j, hj with
  | 0, _ => exact (va_eqt (gw_of hw nw_403)).trans (congrArg (fun z => some (Value.int z)) (by decide : (116 : Int32) = Int32.ofInt 116))
  | 1, _ => exact (va_eqt (gw_of hw nw_404)).trans (congrArg (fun z => some (Value.int z)) (by decide : (105 : Int32) = Int32.ofInt 105))
  | 2, _ => exact (va_eqt (gw_of hw nw_405)).trans (congrArg (fun z => some (Value.int z)) (by decide : (116 : Int32) = Int32.ofInt 116))
  | 3, _ => exact (va_eqt (gw_of hw nw_406)).trans (congrArg (fun z => some (Value.int z)) (by decide : (108 : Int32) = Int32.ofInt 108))
  | 4, _ => exact (va_eqt (gw_of hw nw_407)).trans (congrArg (fun z => some (Value.int z)) (by decide : (101 : Int32) = Int32.ofInt 101))
  | n + 5, h => exact absurd h (by omega)
theorem nw_408 : (Jvm.Cond.exactly (Jvm.Term.string "BeaconIndex$QuestionReader" 196) "java/lang/String") ∈ flatA gvn [] := List.mem_of_getElem? (i := 408) (by decide +kernel)
theorem nw_409 : (Jvm.Cond.eq (Jvm.Term.field (Jvm.Term.string "BeaconIndex$QuestionReader" 196) "java/lang/String" "coder" "B") (Jvm.Term.int 0)) ∈ flatA gvn [] := List.mem_of_getElem? (i := 409) (by decide +kernel)
theorem nw_648 : (Jvm.Cond.exactly (Jvm.Term.field (Jvm.Term.string "BeaconIndex$QuestionReader" 196) "java/lang/String" "value" "[B") "[B") ∈ flatA gvn [] := List.mem_of_getElem? (i := 648) (by decide +kernel)
theorem gk_32 {A : Array Value} {s : State} {G : XG} (hG : gs G = s) (hw : gvn.before A s = true) (hd : ∀ k, k ≠ 104 → gd G k = xad A s (xtmf k)) (hS : u_Kn s "java/lang/String" xF14 2 (gC G 14) (gI G 14)) (hA : ∀ t : Nat, xaok t = true → s.vm.findClass ("[" ++ (xaft t).toString) = some (gA G t)) : gd G 32 < gB G ∧ xCRw G s.heap (gd G 32) 14 2 (xpl xH0 (-34)) := ga_str hG hS (gw_of hw nw_408) (gw_of hw nw_409) (gw_of hw nw_648) (hd 32 (by decide)) (hd 33 (by decide)) (by decide +kernel) (by decide +kernel)
theorem nw_412 : (Jvm.Cond.eq (Jvm.Term.elem (Jvm.Term.field (Jvm.Term.string "BeaconIndex$QuestionReader" 196) "java/lang/String" "value" "[B") (Jvm.Term.int 0)) (Jvm.Term.int 98)) ∈ flatA gvn [] := List.mem_of_getElem? (i := 412) (by decide +kernel)
theorem nw_413 : (Jvm.Cond.eq (Jvm.Term.elem (Jvm.Term.field (Jvm.Term.string "BeaconIndex$QuestionReader" 196) "java/lang/String" "value" "[B") (Jvm.Term.int 1)) (Jvm.Term.int 111)) ∈ flatA gvn [] := List.mem_of_getElem? (i := 413) (by decide +kernel)
theorem nw_414 : (Jvm.Cond.eq (Jvm.Term.elem (Jvm.Term.field (Jvm.Term.string "BeaconIndex$QuestionReader" 196) "java/lang/String" "value" "[B") (Jvm.Term.int 2)) (Jvm.Term.int 100)) ∈ flatA gvn [] := List.mem_of_getElem? (i := 414) (by decide +kernel)
theorem nw_415 : (Jvm.Cond.eq (Jvm.Term.elem (Jvm.Term.field (Jvm.Term.string "BeaconIndex$QuestionReader" 196) "java/lang/String" "value" "[B") (Jvm.Term.int 3)) (Jvm.Term.int 121)) ∈ flatA gvn [] := List.mem_of_getElem? (i := 415) (by decide +kernel)
theorem nw_410 : (Jvm.Cond.arrayOf (Jvm.Term.field (Jvm.Term.string "BeaconIndex$QuestionReader" 196) "java/lang/String" "value" "[B") Jvm.ClassFile.FieldType.byte) ∈ flatA gvn [] := List.mem_of_getElem? (i := 410) (by decide +kernel)
theorem nw_411 : (Jvm.Cond.eq (Jvm.Term.length (Jvm.Term.field (Jvm.Term.string "BeaconIndex$QuestionReader" 196) "java/lang/String" "value" "[B")) (Jvm.Term.int 4)) ∈ flatA gvn [] := List.mem_of_getElem? (i := 411) (by decide +kernel)
theorem gk_33 {A : Array Value} {s : State} {G : XG} (hG : gs G = s) (hw : gvn.before A s = true) (hd : ∀ k, k ≠ 104 → gd G k = xad A s (xtmf k)) (hS : u_Kn s "java/lang/String" xF14 2 (gC G 14) (gI G 14)) (hA : ∀ t : Nat, xaok t = true → s.vm.findClass ("[" ++ (xaft t).toString) = some (gA G t)) : gd G 33 < gB G ∧ xCRw G s.heap (gd G 33) 103 4 (xpl xH0 (-35)) := by
  refine ga_arr hG (tm := (Jvm.Term.field (Jvm.Term.string "BeaconIndex$QuestionReader" 196) "java/lang/String" "value" "[B")) (nm := "[B") (t := 103) (N := 4) [98, 111, 100, 121] (by decide) (by decide) (fun _ => trivial) (by decide) (gw_of hw nw_410) (gw_of hw nw_411) ?_ (by decide +kernel) (fun _ => ⟨gw_of hw nw_648, by have := hA 103 rfl; rw [← this]; rfl⟩) (hd 33 (by decide))
  intro j hj
  match j, hj with
  | 0, _ => exact (va_eqt (gw_of hw nw_412)).trans (congrArg (fun z => some (Value.int z)) (by decide : (98 : Int32) = Int32.ofInt 98))
  | 1, _ => exact (va_eqt (gw_of hw nw_413)).trans (congrArg (fun z => some (Value.int z)) (by decide : (111 : Int32) = Int32.ofInt 111))
  | 2, _ => exact (va_eqt (gw_of hw nw_414)).trans (congrArg (fun z => some (Value.int z)) (by decide : (100 : Int32) = Int32.ofInt 100))
  | 3, _ => exact (va_eqt (gw_of hw nw_415)).trans (congrArg (fun z => some (Value.int z)) (by decide : (121 : Int32) = Int32.ofInt 121))
  | n + 4, h => exact absurd h (by omega)
theorem nw_416 : (Jvm.Cond.exactly (Jvm.Term.string "BeaconIndexModel" 155) "java/lang/String") ∈ flatA gvn [] := List.mem_of_getElem? (i := 416) (by decide +kernel)
theorem nw_417 : (Jvm.Cond.eq (Jvm.Term.field (Jvm.Term.string "BeaconIndexModel" 155) "java/lang/String" "coder" "B") (Jvm.Term.int 0)) ∈ flatA gvn [] := List.mem_of_getElem? (i := 417) (by decide +kernel)
theorem nw_649 : (Jvm.Cond.exactly (Jvm.Term.field (Jvm.Term.string "BeaconIndexModel" 155) "java/lang/String" "value" "[B") "[B") ∈ flatA gvn [] := List.mem_of_getElem? (i := 649) (by decide +kernel)
theorem gk_34 {A : Array Value} {s : State} {G : XG} (hG : gs G = s) (hw : gvn.before A s = true) (hd : ∀ k, k ≠ 104 → gd G k = xad A s (xtmf k)) (hS : u_Kn s "java/lang/String" xF14 2 (gC G 14) (gI G 14)) (hA : ∀ t : Nat, xaok t = true → s.vm.findClass ("[" ++ (xaft t).toString) = some (gA G t)) : gd G 34 < gB G ∧ xCRw G s.heap (gd G 34) 14 2 (xpl xH0 (-36)) := ga_str hG hS (gw_of hw nw_416) (gw_of hw nw_417) (gw_of hw nw_649) (hd 34 (by decide)) (hd 35 (by decide)) (by decide +kernel) (by decide +kernel)
theorem nw_420 : (Jvm.Cond.eq (Jvm.Term.elem (Jvm.Term.field (Jvm.Term.string "BeaconIndexModel" 155) "java/lang/String" "value" "[B") (Jvm.Term.int 0)) (Jvm.Term.int 105)) ∈ flatA gvn [] := List.mem_of_getElem? (i := 420) (by decide +kernel)
theorem nw_421 : (Jvm.Cond.eq (Jvm.Term.elem (Jvm.Term.field (Jvm.Term.string "BeaconIndexModel" 155) "java/lang/String" "value" "[B") (Jvm.Term.int 1)) (Jvm.Term.int 101)) ∈ flatA gvn [] := List.mem_of_getElem? (i := 421) (by decide +kernel)
theorem nw_422 : (Jvm.Cond.eq (Jvm.Term.elem (Jvm.Term.field (Jvm.Term.string "BeaconIndexModel" 155) "java/lang/String" "value" "[B") (Jvm.Term.int 2)) (Jvm.Term.int 115)) ∈ flatA gvn [] := List.mem_of_getElem? (i := 422) (by decide +kernel)
theorem nw_418 : (Jvm.Cond.arrayOf (Jvm.Term.field (Jvm.Term.string "BeaconIndexModel" 155) "java/lang/String" "value" "[B") Jvm.ClassFile.FieldType.byte) ∈ flatA gvn [] := List.mem_of_getElem? (i := 418) (by decide +kernel)
theorem nw_419 : (Jvm.Cond.eq (Jvm.Term.length (Jvm.Term.field (Jvm.Term.string "BeaconIndexModel" 155) "java/lang/String" "value" "[B")) (Jvm.Term.int 3)) ∈ flatA gvn [] := List.mem_of_getElem? (i := 419) (by decide +kernel)
theorem gk_35 {A : Array Value} {s : State} {G : XG} (hG : gs G = s) (hw : gvn.before A s = true) (hd : ∀ k, k ≠ 104 → gd G k = xad A s (xtmf k)) (hS : u_Kn s "java/lang/String" xF14 2 (gC G 14) (gI G 14)) (hA : ∀ t : Nat, xaok t = true → s.vm.findClass ("[" ++ (xaft t).toString) = some (gA G t)) : gd G 35 < gB G ∧ xCRw G s.heap (gd G 35) 103 3 (xpl xH0 (-37)) := by
  refine ga_arr hG (tm := (Jvm.Term.field (Jvm.Term.string "BeaconIndexModel" 155) "java/lang/String" "value" "[B")) (nm := "[B") (t := 103) (N := 3) [105, 101, 115] (by decide) (by decide) (fun _ => trivial) (by decide) (gw_of hw nw_418) (gw_of hw nw_419) ?_ (by decide +kernel) (fun _ => ⟨gw_of hw nw_649, by have := hA 103 rfl; rw [← this]; rfl⟩) (hd 35 (by decide))
  intro j hj
  match j, hj with
  | 0, _ => exact (va_eqt (gw_of hw nw_420)).trans (congrArg (fun z => some (Value.int z)) (by decide : (105 : Int32) = Int32.ofInt 105))
  | 1, _ => exact (va_eqt (gw_of hw nw_421)).trans (congrArg (fun z => some (Value.int z)) (by decide : (101 : Int32) = Int32.ofInt 101))
  | 2, _ => exact (va_eqt (gw_of hw nw_422)).trans (congrArg (fun z => some (Value.int z)) (by decide : (115 : Int32) = Int32.ofInt 115))
  | n + 3, h => exact absurd h (by omega)
theorem nw_424 : (Jvm.Cond.exactly (Jvm.Term.string "BeaconIndexModel" 164) "java/lang/String") ∈ flatA gvn [] := List.mem_of_getElem? (i := 424) (by decide +kernel)
theorem nw_425 : (Jvm.Cond.eq (Jvm.Term.field (Jvm.Term.string "BeaconIndexModel" 164) "java/lang/String" "coder" "B") (Jvm.Term.int 0)) ∈ flatA gvn [] := List.mem_of_getElem? (i := 425) (by decide +kernel)
theorem nw_650 : (Jvm.Cond.exactly (Jvm.Term.field (Jvm.Term.string "BeaconIndexModel" 164) "java/lang/String" "value" "[B") "[B") ∈ flatA gvn [] := List.mem_of_getElem? (i := 650) (by decide +kernel)
theorem gk_36 {A : Array Value} {s : State} {G : XG} (hG : gs G = s) (hw : gvn.before A s = true) (hd : ∀ k, k ≠ 104 → gd G k = xad A s (xtmf k)) (hS : u_Kn s "java/lang/String" xF14 2 (gC G 14) (gI G 14)) (hA : ∀ t : Nat, xaok t = true → s.vm.findClass ("[" ++ (xaft t).toString) = some (gA G t)) : gd G 36 < gB G ∧ xCRw G s.heap (gd G 36) 14 2 (xpl xH0 (-38)) := ga_str hG hS (gw_of hw nw_424) (gw_of hw nw_425) (gw_of hw nw_650) (hd 36 (by decide)) (hd 37 (by decide)) (by decide +kernel) (by decide +kernel)
theorem nw_428 : (Jvm.Cond.eq (Jvm.Term.elem (Jvm.Term.field (Jvm.Term.string "BeaconIndexModel" 164) "java/lang/String" "value" "[B") (Jvm.Term.int 0)) (Jvm.Term.int 115)) ∈ flatA gvn [] := List.mem_of_getElem? (i := 428) (by decide +kernel)
theorem nw_429 : (Jvm.Cond.eq (Jvm.Term.elem (Jvm.Term.field (Jvm.Term.string "BeaconIndexModel" 164) "java/lang/String" "value" "[B") (Jvm.Term.int 1)) (Jvm.Term.int 115)) ∈ flatA gvn [] := List.mem_of_getElem? (i := 429) (by decide +kernel)
theorem nw_430 : (Jvm.Cond.eq (Jvm.Term.elem (Jvm.Term.field (Jvm.Term.string "BeaconIndexModel" 164) "java/lang/String" "value" "[B") (Jvm.Term.int 2)) (Jvm.Term.int 101)) ∈ flatA gvn [] := List.mem_of_getElem? (i := 430) (by decide +kernel)
theorem nw_431 : (Jvm.Cond.eq (Jvm.Term.elem (Jvm.Term.field (Jvm.Term.string "BeaconIndexModel" 164) "java/lang/String" "value" "[B") (Jvm.Term.int 3)) (Jvm.Term.int 115)) ∈ flatA gvn [] := List.mem_of_getElem? (i := 431) (by decide +kernel)
theorem nw_426 : (Jvm.Cond.arrayOf (Jvm.Term.field (Jvm.Term.string "BeaconIndexModel" 164) "java/lang/String" "value" "[B") Jvm.ClassFile.FieldType.byte) ∈ flatA gvn [] := List.mem_of_getElem? (i := 426) (by decide +kernel)
theorem nw_427 : (Jvm.Cond.eq (Jvm.Term.length (Jvm.Term.field (Jvm.Term.string "BeaconIndexModel" 164) "java/lang/String" "value" "[B")) (Jvm.Term.int 4)) ∈ flatA gvn [] := List.mem_of_getElem? (i := 427) (by decide +kernel)
theorem gk_37 {A : Array Value} {s : State} {G : XG} (hG : gs G = s) (hw : gvn.before A s = true) (hd : ∀ k, k ≠ 104 → gd G k = xad A s (xtmf k)) (hS : u_Kn s "java/lang/String" xF14 2 (gC G 14) (gI G 14)) (hA : ∀ t : Nat, xaok t = true → s.vm.findClass ("[" ++ (xaft t).toString) = some (gA G t)) : gd G 37 < gB G ∧ xCRw G s.heap (gd G 37) 103 4 (xpl xH0 (-39)) := by
  refine ga_arr hG (tm := (Jvm.Term.field (Jvm.Term.string "BeaconIndexModel" 164) "java/lang/String" "value" "[B")) (nm := "[B") (t := 103) (N := 4) [115, 115, 101, 115] (by decide) (by decide) (fun _ => trivial) (by decide) (gw_of hw nw_426) (gw_of hw nw_427) ?_ (by decide +kernel) (fun _ => ⟨gw_of hw nw_650, by have := hA 103 rfl; rw [← this]; rfl⟩) (hd 37 (by decide))
  intro j hj
  match j, hj with
  | 0, _ => exact (va_eqt (gw_of hw nw_428)).trans (congrArg (fun z => some (Value.int z)) (by decide : (115 : Int32) = Int32.ofInt 115))
  | 1, _ => exact (va_eqt (gw_of hw nw_429)).trans (congrArg (fun z => some (Value.int z)) (by decide : (115 : Int32) = Int32.ofInt 115))
  | 2, _ => exact (va_eqt (gw_of hw nw_430)).trans (congrArg (fun z => some (Value.int z)) (by decide : (101 : Int32) = Int32.ofInt 101))
  | 3, _ => exact (va_eqt (gw_of hw nw_431)).trans (congrArg (fun z => some (Value.int z)) (by decide : (115 : Int32) = Int32.ofInt 115))
  | n + 4, h => exact absurd h (by omega)
theorem nw_433 : (Jvm.Cond.exactly (Jvm.Term.string "BeaconIndexModel" 166) "java/lang/String") ∈ flatA gvn [] := List.mem_of_getElem? (i := 433) (by decide +kernel)
theorem nw_434 : (Jvm.Cond.eq (Jvm.Term.field (Jvm.Term.string "BeaconIndexModel" 166) "java/lang/String" "coder" "B") (Jvm.Term.int 0)) ∈ flatA gvn [] := List.mem_of_getElem? (i := 434) (by decide +kernel)
theorem nw_651 : (Jvm.Cond.exactly (Jvm.Term.field (Jvm.Term.string "BeaconIndexModel" 166) "java/lang/String" "value" "[B") "[B") ∈ flatA gvn [] := List.mem_of_getElem? (i := 651) (by decide +kernel)
theorem gk_38 {A : Array Value} {s : State} {G : XG} (hG : gs G = s) (hw : gvn.before A s = true) (hd : ∀ k, k ≠ 104 → gd G k = xad A s (xtmf k)) (hS : u_Kn s "java/lang/String" xF14 2 (gC G 14) (gI G 14)) (hA : ∀ t : Nat, xaok t = true → s.vm.findClass ("[" ++ (xaft t).toString) = some (gA G t)) : gd G 38 < gB G ∧ xCRw G s.heap (gd G 38) 14 2 (xpl xH0 (-40)) := ga_str hG hS (gw_of hw nw_433) (gw_of hw nw_434) (gw_of hw nw_651) (hd 38 (by decide)) (hd 39 (by decide)) (by decide +kernel) (by decide +kernel)
theorem nw_437 : (Jvm.Cond.eq (Jvm.Term.elem (Jvm.Term.field (Jvm.Term.string "BeaconIndexModel" 166) "java/lang/String" "value" "[B") (Jvm.Term.int 0)) (Jvm.Term.int 115)) ∈ flatA gvn [] := List.mem_of_getElem? (i := 437) (by decide +kernel)
theorem nw_435 : (Jvm.Cond.arrayOf (Jvm.Term.field (Jvm.Term.string "BeaconIndexModel" 166) "java/lang/String" "value" "[B") Jvm.ClassFile.FieldType.byte) ∈ flatA gvn [] := List.mem_of_getElem? (i := 435) (by decide +kernel)
theorem nw_436 : (Jvm.Cond.eq (Jvm.Term.length (Jvm.Term.field (Jvm.Term.string "BeaconIndexModel" 166) "java/lang/String" "value" "[B")) (Jvm.Term.int 1)) ∈ flatA gvn [] := List.mem_of_getElem? (i := 436) (by decide +kernel)
theorem gk_39 {A : Array Value} {s : State} {G : XG} (hG : gs G = s) (hw : gvn.before A s = true) (hd : ∀ k, k ≠ 104 → gd G k = xad A s (xtmf k)) (hS : u_Kn s "java/lang/String" xF14 2 (gC G 14) (gI G 14)) (hA : ∀ t : Nat, xaok t = true → s.vm.findClass ("[" ++ (xaft t).toString) = some (gA G t)) : gd G 39 < gB G ∧ xCRw G s.heap (gd G 39) 103 1 (xpl xH0 (-41)) := by
  refine ga_arr hG (tm := (Jvm.Term.field (Jvm.Term.string "BeaconIndexModel" 166) "java/lang/String" "value" "[B")) (nm := "[B") (t := 103) (N := 1) [115] (by decide) (by decide) (fun _ => trivial) (by decide) (gw_of hw nw_435) (gw_of hw nw_436) ?_ (by decide +kernel) (fun _ => ⟨gw_of hw nw_651, by have := hA 103 rfl; rw [← this]; rfl⟩) (hd 39 (by decide))
  intro j hj
  match j, hj with
  | 0, _ => exact (va_eqt (gw_of hw nw_437)).trans (congrArg (fun z => some (Value.int z)) (by decide : (115 : Int32) = Int32.ofInt 115))
  | n + 1, h => exact absurd h (by omega)
theorem nw_439 : (Jvm.Cond.exactly (Jvm.Term.string "BeaconIndexModel" 168) "java/lang/String") ∈ flatA gvn [] := List.mem_of_getElem? (i := 439) (by decide +kernel)
theorem nw_440 : (Jvm.Cond.eq (Jvm.Term.field (Jvm.Term.string "BeaconIndexModel" 168) "java/lang/String" "coder" "B") (Jvm.Term.int 0)) ∈ flatA gvn [] := List.mem_of_getElem? (i := 440) (by decide +kernel)
theorem nw_652 : (Jvm.Cond.exactly (Jvm.Term.field (Jvm.Term.string "BeaconIndexModel" 168) "java/lang/String" "value" "[B") "[B") ∈ flatA gvn [] := List.mem_of_getElem? (i := 652) (by decide +kernel)
theorem gk_40 {A : Array Value} {s : State} {G : XG} (hG : gs G = s) (hw : gvn.before A s = true) (hd : ∀ k, k ≠ 104 → gd G k = xad A s (xtmf k)) (hS : u_Kn s "java/lang/String" xF14 2 (gC G 14) (gI G 14)) (hA : ∀ t : Nat, xaok t = true → s.vm.findClass ("[" ++ (xaft t).toString) = some (gA G t)) : gd G 40 < gB G ∧ xCRw G s.heap (gd G 40) 14 2 (xpl xH0 (-42)) := ga_str hG hS (gw_of hw nw_439) (gw_of hw nw_440) (gw_of hw nw_652) (hd 40 (by decide)) (hd 41 (by decide)) (by decide +kernel) (by decide +kernel)
theorem nw_443 : (Jvm.Cond.eq (Jvm.Term.elem (Jvm.Term.field (Jvm.Term.string "BeaconIndexModel" 168) "java/lang/String" "value" "[B") (Jvm.Term.int 0)) (Jvm.Term.int 115)) ∈ flatA gvn [] := List.mem_of_getElem? (i := 443) (by decide +kernel)
theorem nw_444 : (Jvm.Cond.eq (Jvm.Term.elem (Jvm.Term.field (Jvm.Term.string "BeaconIndexModel" 168) "java/lang/String" "value" "[B") (Jvm.Term.int 1)) (Jvm.Term.int 115)) ∈ flatA gvn [] := List.mem_of_getElem? (i := 444) (by decide +kernel)
theorem nw_441 : (Jvm.Cond.arrayOf (Jvm.Term.field (Jvm.Term.string "BeaconIndexModel" 168) "java/lang/String" "value" "[B") Jvm.ClassFile.FieldType.byte) ∈ flatA gvn [] := List.mem_of_getElem? (i := 441) (by decide +kernel)
theorem nw_442 : (Jvm.Cond.eq (Jvm.Term.length (Jvm.Term.field (Jvm.Term.string "BeaconIndexModel" 168) "java/lang/String" "value" "[B")) (Jvm.Term.int 2)) ∈ flatA gvn [] := List.mem_of_getElem? (i := 442) (by decide +kernel)
theorem gk_41 {A : Array Value} {s : State} {G : XG} (hG : gs G = s) (hw : gvn.before A s = true) (hd : ∀ k, k ≠ 104 → gd G k = xad A s (xtmf k)) (hS : u_Kn s "java/lang/String" xF14 2 (gC G 14) (gI G 14)) (hA : ∀ t : Nat, xaok t = true → s.vm.findClass ("[" ++ (xaft t).toString) = some (gA G t)) : gd G 41 < gB G ∧ xCRw G s.heap (gd G 41) 103 2 (xpl xH0 (-43)) := by
  refine ga_arr hG (tm := (Jvm.Term.field (Jvm.Term.string "BeaconIndexModel" 168) "java/lang/String" "value" "[B")) (nm := "[B") (t := 103) (N := 2) [115, 115] (by decide) (by decide) (fun _ => trivial) (by decide) (gw_of hw nw_441) (gw_of hw nw_442) ?_ (by decide +kernel) (fun _ => ⟨gw_of hw nw_652, by have := hA 103 rfl; rw [← this]; rfl⟩) (hd 41 (by decide))
  intro j hj
  match j, hj with
  | 0, _ => exact (va_eqt (gw_of hw nw_443)).trans (congrArg (fun z => some (Value.int z)) (by decide : (115 : Int32) = Int32.ofInt 115))
  | 1, _ => exact (va_eqt (gw_of hw nw_444)).trans (congrArg (fun z => some (Value.int z)) (by decide : (115 : Int32) = Int32.ofInt 115))
  | n + 2, h => exact absurd h (by omega)
theorem nw_446 : (Jvm.Cond.exactly (Jvm.Term.string "BeaconIndexModel" 170) "java/lang/String") ∈ flatA gvn [] := List.mem_of_getElem? (i := 446) (by decide +kernel)
theorem nw_447 : (Jvm.Cond.eq (Jvm.Term.field (Jvm.Term.string "BeaconIndexModel" 170) "java/lang/String" "coder" "B") (Jvm.Term.int 0)) ∈ flatA gvn [] := List.mem_of_getElem? (i := 447) (by decide +kernel)
theorem nw_653 : (Jvm.Cond.exactly (Jvm.Term.field (Jvm.Term.string "BeaconIndexModel" 170) "java/lang/String" "value" "[B") "[B") ∈ flatA gvn [] := List.mem_of_getElem? (i := 653) (by decide +kernel)
theorem gk_42 {A : Array Value} {s : State} {G : XG} (hG : gs G = s) (hw : gvn.before A s = true) (hd : ∀ k, k ≠ 104 → gd G k = xad A s (xtmf k)) (hS : u_Kn s "java/lang/String" xF14 2 (gC G 14) (gI G 14)) (hA : ∀ t : Nat, xaok t = true → s.vm.findClass ("[" ++ (xaft t).toString) = some (gA G t)) : gd G 42 < gB G ∧ xCRw G s.heap (gd G 42) 14 2 (xpl xH0 (-44)) := ga_str hG hS (gw_of hw nw_446) (gw_of hw nw_447) (gw_of hw nw_653) (hd 42 (by decide)) (hd 43 (by decide)) (by decide +kernel) (by decide +kernel)
theorem nw_450 : (Jvm.Cond.eq (Jvm.Term.elem (Jvm.Term.field (Jvm.Term.string "BeaconIndexModel" 170) "java/lang/String" "value" "[B") (Jvm.Term.int 0)) (Jvm.Term.int 117)) ∈ flatA gvn [] := List.mem_of_getElem? (i := 450) (by decide +kernel)
theorem nw_451 : (Jvm.Cond.eq (Jvm.Term.elem (Jvm.Term.field (Jvm.Term.string "BeaconIndexModel" 170) "java/lang/String" "value" "[B") (Jvm.Term.int 1)) (Jvm.Term.int 115)) ∈ flatA gvn [] := List.mem_of_getElem? (i := 451) (by decide +kernel)
theorem nw_448 : (Jvm.Cond.arrayOf (Jvm.Term.field (Jvm.Term.string "BeaconIndexModel" 170) "java/lang/String" "value" "[B") Jvm.ClassFile.FieldType.byte) ∈ flatA gvn [] := List.mem_of_getElem? (i := 448) (by decide +kernel)
theorem nw_449 : (Jvm.Cond.eq (Jvm.Term.length (Jvm.Term.field (Jvm.Term.string "BeaconIndexModel" 170) "java/lang/String" "value" "[B")) (Jvm.Term.int 2)) ∈ flatA gvn [] := List.mem_of_getElem? (i := 449) (by decide +kernel)
theorem gk_43 {A : Array Value} {s : State} {G : XG} (hG : gs G = s) (hw : gvn.before A s = true) (hd : ∀ k, k ≠ 104 → gd G k = xad A s (xtmf k)) (hS : u_Kn s "java/lang/String" xF14 2 (gC G 14) (gI G 14)) (hA : ∀ t : Nat, xaok t = true → s.vm.findClass ("[" ++ (xaft t).toString) = some (gA G t)) : gd G 43 < gB G ∧ xCRw G s.heap (gd G 43) 103 2 (xpl xH0 (-45)) := by
  refine ga_arr hG (tm := (Jvm.Term.field (Jvm.Term.string "BeaconIndexModel" 170) "java/lang/String" "value" "[B")) (nm := "[B") (t := 103) (N := 2) [117, 115] (by decide) (by decide) (fun _ => trivial) (by decide) (gw_of hw nw_448) (gw_of hw nw_449) ?_ (by decide +kernel) (fun _ => ⟨gw_of hw nw_653, by have := hA 103 rfl; rw [← this]; rfl⟩) (hd 43 (by decide))
  intro j hj
  match j, hj with
  | 0, _ => exact (va_eqt (gw_of hw nw_450)).trans (congrArg (fun z => some (Value.int z)) (by decide : (117 : Int32) = Int32.ofInt 117))
  | 1, _ => exact (va_eqt (gw_of hw nw_451)).trans (congrArg (fun z => some (Value.int z)) (by decide : (115 : Int32) = Int32.ofInt 115))
  | n + 2, h => exact absurd h (by omega)
theorem nw_453 : (Jvm.Cond.exactly (Jvm.Term.string "BeaconIndexModel" 172) "java/lang/String") ∈ flatA gvn [] := List.mem_of_getElem? (i := 453) (by decide +kernel)
theorem nw_454 : (Jvm.Cond.eq (Jvm.Term.field (Jvm.Term.string "BeaconIndexModel" 172) "java/lang/String" "coder" "B") (Jvm.Term.int 0)) ∈ flatA gvn [] := List.mem_of_getElem? (i := 454) (by decide +kernel)
theorem nw_654 : (Jvm.Cond.exactly (Jvm.Term.field (Jvm.Term.string "BeaconIndexModel" 172) "java/lang/String" "value" "[B") "[B") ∈ flatA gvn [] := List.mem_of_getElem? (i := 654) (by decide +kernel)
theorem gk_44 {A : Array Value} {s : State} {G : XG} (hG : gs G = s) (hw : gvn.before A s = true) (hd : ∀ k, k ≠ 104 → gd G k = xad A s (xtmf k)) (hS : u_Kn s "java/lang/String" xF14 2 (gC G 14) (gI G 14)) (hA : ∀ t : Nat, xaok t = true → s.vm.findClass ("[" ++ (xaft t).toString) = some (gA G t)) : gd G 44 < gB G ∧ xCRw G s.heap (gd G 44) 14 2 (xpl xH0 (-46)) := ga_str hG hS (gw_of hw nw_453) (gw_of hw nw_454) (gw_of hw nw_654) (hd 44 (by decide)) (hd 45 (by decide)) (by decide +kernel) (by decide +kernel)
theorem nw_457 : (Jvm.Cond.eq (Jvm.Term.elem (Jvm.Term.field (Jvm.Term.string "BeaconIndexModel" 172) "java/lang/String" "value" "[B") (Jvm.Term.int 0)) (Jvm.Term.int 105)) ∈ flatA gvn [] := List.mem_of_getElem? (i := 457) (by decide +kernel)
theorem nw_458 : (Jvm.Cond.eq (Jvm.Term.elem (Jvm.Term.field (Jvm.Term.string "BeaconIndexModel" 172) "java/lang/String" "value" "[B") (Jvm.Term.int 1)) (Jvm.Term.int 110)) ∈ flatA gvn [] := List.mem_of_getElem? (i := 458) (by decide +kernel)
theorem nw_459 : (Jvm.Cond.eq (Jvm.Term.elem (Jvm.Term.field (Jvm.Term.string "BeaconIndexModel" 172) "java/lang/String" "value" "[B") (Jvm.Term.int 2)) (Jvm.Term.int 103)) ∈ flatA gvn [] := List.mem_of_getElem? (i := 459) (by decide +kernel)
theorem nw_455 : (Jvm.Cond.arrayOf (Jvm.Term.field (Jvm.Term.string "BeaconIndexModel" 172) "java/lang/String" "value" "[B") Jvm.ClassFile.FieldType.byte) ∈ flatA gvn [] := List.mem_of_getElem? (i := 455) (by decide +kernel)
theorem nw_456 : (Jvm.Cond.eq (Jvm.Term.length (Jvm.Term.field (Jvm.Term.string "BeaconIndexModel" 172) "java/lang/String" "value" "[B")) (Jvm.Term.int 3)) ∈ flatA gvn [] := List.mem_of_getElem? (i := 456) (by decide +kernel)
theorem gk_45 {A : Array Value} {s : State} {G : XG} (hG : gs G = s) (hw : gvn.before A s = true) (hd : ∀ k, k ≠ 104 → gd G k = xad A s (xtmf k)) (hS : u_Kn s "java/lang/String" xF14 2 (gC G 14) (gI G 14)) (hA : ∀ t : Nat, xaok t = true → s.vm.findClass ("[" ++ (xaft t).toString) = some (gA G t)) : gd G 45 < gB G ∧ xCRw G s.heap (gd G 45) 103 3 (xpl xH0 (-47)) := by
  refine ga_arr hG (tm := (Jvm.Term.field (Jvm.Term.string "BeaconIndexModel" 172) "java/lang/String" "value" "[B")) (nm := "[B") (t := 103) (N := 3) [105, 110, 103] (by decide) (by decide) (fun _ => trivial) (by decide) (gw_of hw nw_455) (gw_of hw nw_456) ?_ (by decide +kernel) (fun _ => ⟨gw_of hw nw_654, by have := hA 103 rfl; rw [← this]; rfl⟩) (hd 45 (by decide))
  intro j hj
  match j, hj with
  | 0, _ => exact (va_eqt (gw_of hw nw_457)).trans (congrArg (fun z => some (Value.int z)) (by decide : (105 : Int32) = Int32.ofInt 105))
  | 1, _ => exact (va_eqt (gw_of hw nw_458)).trans (congrArg (fun z => some (Value.int z)) (by decide : (110 : Int32) = Int32.ofInt 110))
  | 2, _ => exact (va_eqt (gw_of hw nw_459)).trans (congrArg (fun z => some (Value.int z)) (by decide : (103 : Int32) = Int32.ofInt 103))
  | n + 3, h => exact absurd h (by omega)
theorem nw_461 : (Jvm.Cond.exactly (Jvm.Term.string "BeaconIndexModel" 174) "java/lang/String") ∈ flatA gvn [] := List.mem_of_getElem? (i := 461) (by decide +kernel)
theorem nw_462 : (Jvm.Cond.eq (Jvm.Term.field (Jvm.Term.string "BeaconIndexModel" 174) "java/lang/String" "coder" "B") (Jvm.Term.int 0)) ∈ flatA gvn [] := List.mem_of_getElem? (i := 462) (by decide +kernel)
theorem nw_655 : (Jvm.Cond.exactly (Jvm.Term.field (Jvm.Term.string "BeaconIndexModel" 174) "java/lang/String" "value" "[B") "[B") ∈ flatA gvn [] := List.mem_of_getElem? (i := 655) (by decide +kernel)
theorem gk_46 {A : Array Value} {s : State} {G : XG} (hG : gs G = s) (hw : gvn.before A s = true) (hd : ∀ k, k ≠ 104 → gd G k = xad A s (xtmf k)) (hS : u_Kn s "java/lang/String" xF14 2 (gC G 14) (gI G 14)) (hA : ∀ t : Nat, xaok t = true → s.vm.findClass ("[" ++ (xaft t).toString) = some (gA G t)) : gd G 46 < gB G ∧ xCRw G s.heap (gd G 46) 14 2 (xpl xH0 (-48)) := ga_str hG hS (gw_of hw nw_461) (gw_of hw nw_462) (gw_of hw nw_655) (hd 46 (by decide)) (hd 47 (by decide)) (by decide +kernel) (by decide +kernel)
theorem nw_465 : (Jvm.Cond.eq (Jvm.Term.elem (Jvm.Term.field (Jvm.Term.string "BeaconIndexModel" 174) "java/lang/String" "value" "[B") (Jvm.Term.int 0)) (Jvm.Term.int 101)) ∈ flatA gvn [] := List.mem_of_getElem? (i := 465) (by decide +kernel)
theorem nw_466 : (Jvm.Cond.eq (Jvm.Term.elem (Jvm.Term.field (Jvm.Term.string "BeaconIndexModel" 174) "java/lang/String" "value" "[B") (Jvm.Term.int 1)) (Jvm.Term.int 100)) ∈ flatA gvn [] := List.mem_of_getElem? (i := 466) (by decide +kernel)
theorem nw_463 : (Jvm.Cond.arrayOf (Jvm.Term.field (Jvm.Term.string "BeaconIndexModel" 174) "java/lang/String" "value" "[B") Jvm.ClassFile.FieldType.byte) ∈ flatA gvn [] := List.mem_of_getElem? (i := 463) (by decide +kernel)
theorem nw_464 : (Jvm.Cond.eq (Jvm.Term.length (Jvm.Term.field (Jvm.Term.string "BeaconIndexModel" 174) "java/lang/String" "value" "[B")) (Jvm.Term.int 2)) ∈ flatA gvn [] := List.mem_of_getElem? (i := 464) (by decide +kernel)
theorem gk_47 {A : Array Value} {s : State} {G : XG} (hG : gs G = s) (hw : gvn.before A s = true) (hd : ∀ k, k ≠ 104 → gd G k = xad A s (xtmf k)) (hS : u_Kn s "java/lang/String" xF14 2 (gC G 14) (gI G 14)) (hA : ∀ t : Nat, xaok t = true → s.vm.findClass ("[" ++ (xaft t).toString) = some (gA G t)) : gd G 47 < gB G ∧ xCRw G s.heap (gd G 47) 103 2 (xpl xH0 (-49)) := by
  refine ga_arr hG (tm := (Jvm.Term.field (Jvm.Term.string "BeaconIndexModel" 174) "java/lang/String" "value" "[B")) (nm := "[B") (t := 103) (N := 2) [101, 100] (by decide) (by decide) (fun _ => trivial) (by decide) (gw_of hw nw_463) (gw_of hw nw_464) ?_ (by decide +kernel) (fun _ => ⟨gw_of hw nw_655, by have := hA 103 rfl; rw [← this]; rfl⟩) (hd 47 (by decide))
  intro j hj
  match j, hj with
  | 0, _ => exact (va_eqt (gw_of hw nw_465)).trans (congrArg (fun z => some (Value.int z)) (by decide : (101 : Int32) = Int32.ofInt 101))
  | 1, _ => exact (va_eqt (gw_of hw nw_466)).trans (congrArg (fun z => some (Value.int z)) (by decide : (100 : Int32) = Int32.ofInt 100))
  | n + 2, h => exact absurd h (by omega)
theorem nw_540 : (Jvm.Cond.exactly (Jvm.Term.string "BeaconIndexModel" 247) "java/lang/String") ∈ flatA gvn [] := List.mem_of_getElem? (i := 540) (by decide +kernel)
theorem nw_541 : (Jvm.Cond.eq (Jvm.Term.field (Jvm.Term.string "BeaconIndexModel" 247) "java/lang/String" "coder" "B") (Jvm.Term.int 0)) ∈ flatA gvn [] := List.mem_of_getElem? (i := 541) (by decide +kernel)
theorem nw_661 : (Jvm.Cond.exactly (Jvm.Term.field (Jvm.Term.string "BeaconIndexModel" 247) "java/lang/String" "value" "[B") "[B") ∈ flatA gvn [] := List.mem_of_getElem? (i := 661) (by decide +kernel)
theorem gk_58 {A : Array Value} {s : State} {G : XG} (hG : gs G = s) (hw : gvn.before A s = true) (hd : ∀ k, k ≠ 104 → gd G k = xad A s (xtmf k)) (hS : u_Kn s "java/lang/String" xF14 2 (gC G 14) (gI G 14)) (hA : ∀ t : Nat, xaok t = true → s.vm.findClass ("[" ++ (xaft t).toString) = some (gA G t)) : gd G 58 < gB G ∧ xCRw G s.heap (gd G 58) 14 2 (xpl xH0 (-60)) := ga_str hG hS (gw_of hw nw_540) (gw_of hw nw_541) (gw_of hw nw_661) (hd 58 (by decide)) (hd 59 (by decide)) (by decide +kernel) (by decide +kernel)
theorem nw_544 : (Jvm.Cond.eq (Jvm.Term.elem (Jvm.Term.field (Jvm.Term.string "BeaconIndexModel" 247) "java/lang/String" "value" "[B") (Jvm.Term.int 0)) (Jvm.Term.int 43)) ∈ flatA gvn [] := List.mem_of_getElem? (i := 544) (by decide +kernel)
theorem nw_545 : (Jvm.Cond.eq (Jvm.Term.elem (Jvm.Term.field (Jvm.Term.string "BeaconIndexModel" 247) "java/lang/String" "value" "[B") (Jvm.Term.int 1)) (Jvm.Term.int 45)) ∈ flatA gvn [] := List.mem_of_getElem? (i := 545) (by decide +kernel)
theorem nw_546 : (Jvm.Cond.eq (Jvm.Term.elem (Jvm.Term.field (Jvm.Term.string "BeaconIndexModel" 247) "java/lang/String" "value" "[B") (Jvm.Term.int 2)) (Jvm.Term.int 34)) ∈ flatA gvn [] := List.mem_of_getElem? (i := 546) (by decide +kernel)
theorem nw_547 : (Jvm.Cond.eq (Jvm.Term.elem (Jvm.Term.field (Jvm.Term.string "BeaconIndexModel" 247) "java/lang/String" "value" "[B") (Jvm.Term.int 3)) (Jvm.Term.int 42)) ∈ flatA gvn [] := List.mem_of_getElem? (i := 547) (by decide +kernel)
theorem nw_548 : (Jvm.Cond.eq (Jvm.Term.elem (Jvm.Term.field (Jvm.Term.string "BeaconIndexModel" 247) "java/lang/String" "value" "[B") (Jvm.Term.int 4)) (Jvm.Term.int 126)) ∈ flatA gvn [] := List.mem_of_getElem? (i := 548) (by decide +kernel)
theorem nw_549 : (Jvm.Cond.eq (Jvm.Term.elem (Jvm.Term.field (Jvm.Term.string "BeaconIndexModel" 247) "java/lang/String" "value" "[B") (Jvm.Term.int 5)) (Jvm.Term.int 94)) ∈ flatA gvn [] := List.mem_of_getElem? (i := 549) (by decide +kernel)
theorem nw_550 : (Jvm.Cond.eq (Jvm.Term.elem (Jvm.Term.field (Jvm.Term.string "BeaconIndexModel" 247) "java/lang/String" "value" "[B") (Jvm.Term.int 6)) (Jvm.Term.int 58)) ∈ flatA gvn [] := List.mem_of_getElem? (i := 550) (by decide +kernel)
theorem nw_551 : (Jvm.Cond.eq (Jvm.Term.elem (Jvm.Term.field (Jvm.Term.string "BeaconIndexModel" 247) "java/lang/String" "value" "[B") (Jvm.Term.int 7)) (Jvm.Term.int 40)) ∈ flatA gvn [] := List.mem_of_getElem? (i := 551) (by decide +kernel)
theorem nw_552 : (Jvm.Cond.eq (Jvm.Term.elem (Jvm.Term.field (Jvm.Term.string "BeaconIndexModel" 247) "java/lang/String" "value" "[B") (Jvm.Term.int 8)) (Jvm.Term.int 41)) ∈ flatA gvn [] := List.mem_of_getElem? (i := 552) (by decide +kernel)
theorem nw_542 : (Jvm.Cond.arrayOf (Jvm.Term.field (Jvm.Term.string "BeaconIndexModel" 247) "java/lang/String" "value" "[B") Jvm.ClassFile.FieldType.byte) ∈ flatA gvn [] := List.mem_of_getElem? (i := 542) (by decide +kernel)
theorem nw_543 : (Jvm.Cond.eq (Jvm.Term.length (Jvm.Term.field (Jvm.Term.string "BeaconIndexModel" 247) "java/lang/String" "value" "[B")) (Jvm.Term.int 9)) ∈ flatA gvn [] := List.mem_of_getElem? (i := 543) (by decide +kernel)
theorem gk_59 {A : Array Value} {s : State} {G : XG} (hG : gs G = s) (hw : gvn.before A s = true) (hd : ∀ k, k ≠ 104 → gd G k = xad A s (xtmf k)) (hS : u_Kn s "java/lang/String" xF14 2 (gC G 14) (gI G 14)) (hA : ∀ t : Nat, xaok t = true → s.vm.findClass ("[" ++ (xaft t).toString) = some (gA G t)) : gd G 59 < gB G ∧ xCRw G s.heap (gd G 59) 103 9 (xpl xH0 (-61)) := by
  refine ga_arr hG (tm := (Jvm.Term.field (Jvm.Term.string "BeaconIndexModel" 247) "java/lang/String" "value" "[B")) (nm := "[B") (t := 103) (N := 9) [43, 45, 34, 42, 126, 94, 58, 40, 41] (by decide) (by decide) (fun _ => trivial) (by decide) (gw_of hw nw_542) (gw_of hw nw_543) ?_ (by decide +kernel) (fun _ => ⟨gw_of hw nw_661, by have := hA 103 rfl; rw [← this]; rfl⟩) (hd 59 (by decide))
  intro j hj
  match j, hj with
  | 0, _ => exact (va_eqt (gw_of hw nw_544)).trans (congrArg (fun z => some (Value.int z)) (by decide : (43 : Int32) = Int32.ofInt 43))
  | 1, _ => exact (va_eqt (gw_of hw nw_545)).trans (congrArg (fun z => some (Value.int z)) (by decide : (45 : Int32) = Int32.ofInt 45))
  | 2, _ => exact (va_eqt (gw_of hw nw_546)).trans (congrArg (fun z => some (Value.int z)) (by decide : (34 : Int32) = Int32.ofInt 34))
  | 3, _ => exact (va_eqt (gw_of hw nw_547)).trans (congrArg (fun z => some (Value.int z)) (by decide : (42 : Int32) = Int32.ofInt 42))
  | 4, _ => exact (va_eqt (gw_of hw nw_548)).trans (congrArg (fun z => some (Value.int z)) (by decide : (126 : Int32) = Int32.ofInt 126))
  | 5, _ => exact (va_eqt (gw_of hw nw_549)).trans (congrArg (fun z => some (Value.int z)) (by decide : (94 : Int32) = Int32.ofInt 94))
  | 6, _ => exact (va_eqt (gw_of hw nw_550)).trans (congrArg (fun z => some (Value.int z)) (by decide : (58 : Int32) = Int32.ofInt 58))
  | 7, _ => exact (va_eqt (gw_of hw nw_551)).trans (congrArg (fun z => some (Value.int z)) (by decide : (40 : Int32) = Int32.ofInt 40))
  | 8, _ => exact (va_eqt (gw_of hw nw_552)).trans (congrArg (fun z => some (Value.int z)) (by decide : (41 : Int32) = Int32.ofInt 41))
  | n + 9, h => exact absurd h (by omega)
theorem nw_553 : (Jvm.Cond.exactly (Jvm.Term.string "BeaconIndexModel" 287) "java/lang/String") ∈ flatA gvn [] := List.mem_of_getElem? (i := 553) (by decide +kernel)
theorem nw_554 : (Jvm.Cond.eq (Jvm.Term.field (Jvm.Term.string "BeaconIndexModel" 287) "java/lang/String" "coder" "B") (Jvm.Term.int 0)) ∈ flatA gvn [] := List.mem_of_getElem? (i := 554) (by decide +kernel)
theorem nw_662 : (Jvm.Cond.exactly (Jvm.Term.field (Jvm.Term.string "BeaconIndexModel" 287) "java/lang/String" "value" "[B") "[B") ∈ flatA gvn [] := List.mem_of_getElem? (i := 662) (by decide +kernel)
theorem gk_60 {A : Array Value} {s : State} {G : XG} (hG : gs G = s) (hw : gvn.before A s = true) (hd : ∀ k, k ≠ 104 → gd G k = xad A s (xtmf k)) (hS : u_Kn s "java/lang/String" xF14 2 (gC G 14) (gI G 14)) (hA : ∀ t : Nat, xaok t = true → s.vm.findClass ("[" ++ (xaft t).toString) = some (gA G t)) : gd G 60 < gB G ∧ xCRw G s.heap (gd G 60) 14 2 (xpl xH0 (-62)) := ga_str hG hS (gw_of hw nw_553) (gw_of hw nw_554) (gw_of hw nw_662) (hd 60 (by decide)) (hd 61 (by decide)) (by decide +kernel) (by decide +kernel)
theorem nw_557 : (Jvm.Cond.eq (Jvm.Term.elem (Jvm.Term.field (Jvm.Term.string "BeaconIndexModel" 287) "java/lang/String" "value" "[B") (Jvm.Term.int 0)) (Jvm.Term.int 116)) ∈ flatA gvn [] := List.mem_of_getElem? (i := 557) (by decide +kernel)
theorem nw_558 : (Jvm.Cond.eq (Jvm.Term.elem (Jvm.Term.field (Jvm.Term.string "BeaconIndexModel" 287) "java/lang/String" "value" "[B") (Jvm.Term.int 1)) (Jvm.Term.int 105)) ∈ flatA gvn [] := List.mem_of_getElem? (i := 558) (by decide +kernel)
theorem nw_559 : (Jvm.Cond.eq (Jvm.Term.elem (Jvm.Term.field (Jvm.Term.string "BeaconIndexModel" 287) "java/lang/String" "value" "[B") (Jvm.Term.int 2)) (Jvm.Term.int 116)) ∈ flatA gvn [] := List.mem_of_getElem? (i := 559) (by decide +kernel)
theorem nw_560 : (Jvm.Cond.eq (Jvm.Term.elem (Jvm.Term.field (Jvm.Term.string "BeaconIndexModel" 287) "java/lang/String" "value" "[B") (Jvm.Term.int 3)) (Jvm.Term.int 108)) ∈ flatA gvn [] := List.mem_of_getElem? (i := 560) (by decide +kernel)
theorem nw_561 : (Jvm.Cond.eq (Jvm.Term.elem (Jvm.Term.field (Jvm.Term.string "BeaconIndexModel" 287) "java/lang/String" "value" "[B") (Jvm.Term.int 4)) (Jvm.Term.int 101)) ∈ flatA gvn [] := List.mem_of_getElem? (i := 561) (by decide +kernel)
theorem nw_555 : (Jvm.Cond.arrayOf (Jvm.Term.field (Jvm.Term.string "BeaconIndexModel" 287) "java/lang/String" "value" "[B") Jvm.ClassFile.FieldType.byte) ∈ flatA gvn [] := List.mem_of_getElem? (i := 555) (by decide +kernel)
theorem nw_556 : (Jvm.Cond.eq (Jvm.Term.length (Jvm.Term.field (Jvm.Term.string "BeaconIndexModel" 287) "java/lang/String" "value" "[B")) (Jvm.Term.int 5)) ∈ flatA gvn [] := List.mem_of_getElem? (i := 556) (by decide +kernel)
theorem gk_61 {A : Array Value} {s : State} {G : XG} (hG : gs G = s) (hw : gvn.before A s = true) (hd : ∀ k, k ≠ 104 → gd G k = xad A s (xtmf k)) (hS : u_Kn s "java/lang/String" xF14 2 (gC G 14) (gI G 14)) (hA : ∀ t : Nat, xaok t = true → s.vm.findClass ("[" ++ (xaft t).toString) = some (gA G t)) : gd G 61 < gB G ∧ xCRw G s.heap (gd G 61) 103 5 (xpl xH0 (-63)) := by
  refine ga_arr hG (tm := (Jvm.Term.field (Jvm.Term.string "BeaconIndexModel" 287) "java/lang/String" "value" "[B")) (nm := "[B") (t := 103) (N := 5) [116, 105, 116, 108, 101] (by decide) (by decide) (fun _ => trivial) (by decide) (gw_of hw nw_555) (gw_of hw nw_556) ?_ (by decide +kernel) (fun _ => ⟨gw_of hw nw_662, by have := hA 103 rfl; rw [← this]; rfl⟩) (hd 61 (by decide))
  intro j hj
  match j, hj with
  | 0, _ => exact (va_eqt (gw_of hw nw_557)).trans (congrArg (fun z => some (Value.int z)) (by decide : (116 : Int32) = Int32.ofInt 116))
  | 1, _ => exact (va_eqt (gw_of hw nw_558)).trans (congrArg (fun z => some (Value.int z)) (by decide : (105 : Int32) = Int32.ofInt 105))
  | 2, _ => exact (va_eqt (gw_of hw nw_559)).trans (congrArg (fun z => some (Value.int z)) (by decide : (116 : Int32) = Int32.ofInt 116))
  | 3, _ => exact (va_eqt (gw_of hw nw_560)).trans (congrArg (fun z => some (Value.int z)) (by decide : (108 : Int32) = Int32.ofInt 108))
  | 4, _ => exact (va_eqt (gw_of hw nw_561)).trans (congrArg (fun z => some (Value.int z)) (by decide : (101 : Int32) = Int32.ofInt 101))
  | n + 5, h => exact absurd h (by omega)
theorem nw_563 : (Jvm.Cond.exactly (Jvm.Term.string "BeaconIndexModel" 289) "java/lang/String") ∈ flatA gvn [] := List.mem_of_getElem? (i := 563) (by decide +kernel)
theorem nw_564 : (Jvm.Cond.eq (Jvm.Term.field (Jvm.Term.string "BeaconIndexModel" 289) "java/lang/String" "coder" "B") (Jvm.Term.int 0)) ∈ flatA gvn [] := List.mem_of_getElem? (i := 564) (by decide +kernel)
theorem nw_663 : (Jvm.Cond.exactly (Jvm.Term.field (Jvm.Term.string "BeaconIndexModel" 289) "java/lang/String" "value" "[B") "[B") ∈ flatA gvn [] := List.mem_of_getElem? (i := 663) (by decide +kernel)
theorem gk_62 {A : Array Value} {s : State} {G : XG} (hG : gs G = s) (hw : gvn.before A s = true) (hd : ∀ k, k ≠ 104 → gd G k = xad A s (xtmf k)) (hS : u_Kn s "java/lang/String" xF14 2 (gC G 14) (gI G 14)) (hA : ∀ t : Nat, xaok t = true → s.vm.findClass ("[" ++ (xaft t).toString) = some (gA G t)) : gd G 62 < gB G ∧ xCRw G s.heap (gd G 62) 14 2 (xpl xH0 (-64)) := ga_str hG hS (gw_of hw nw_563) (gw_of hw nw_564) (gw_of hw nw_663) (hd 62 (by decide)) (hd 63 (by decide)) (by decide +kernel) (by decide +kernel)
theorem nw_567 : (Jvm.Cond.eq (Jvm.Term.elem (Jvm.Term.field (Jvm.Term.string "BeaconIndexModel" 289) "java/lang/String" "value" "[B") (Jvm.Term.int 0)) (Jvm.Term.int 98)) ∈ flatA gvn [] := List.mem_of_getElem? (i := 567) (by decide +kernel)
theorem nw_568 : (Jvm.Cond.eq (Jvm.Term.elem (Jvm.Term.field (Jvm.Term.string "BeaconIndexModel" 289) "java/lang/String" "value" "[B") (Jvm.Term.int 1)) (Jvm.Term.int 111)) ∈ flatA gvn [] := List.mem_of_getElem? (i := 568) (by decide +kernel)
theorem nw_569 : (Jvm.Cond.eq (Jvm.Term.elem (Jvm.Term.field (Jvm.Term.string "BeaconIndexModel" 289) "java/lang/String" "value" "[B") (Jvm.Term.int 2)) (Jvm.Term.int 100)) ∈ flatA gvn [] := List.mem_of_getElem? (i := 569) (by decide +kernel)
theorem nw_570 : (Jvm.Cond.eq (Jvm.Term.elem (Jvm.Term.field (Jvm.Term.string "BeaconIndexModel" 289) "java/lang/String" "value" "[B") (Jvm.Term.int 3)) (Jvm.Term.int 121)) ∈ flatA gvn [] := List.mem_of_getElem? (i := 570) (by decide +kernel)
theorem nw_565 : (Jvm.Cond.arrayOf (Jvm.Term.field (Jvm.Term.string "BeaconIndexModel" 289) "java/lang/String" "value" "[B") Jvm.ClassFile.FieldType.byte) ∈ flatA gvn [] := List.mem_of_getElem? (i := 565) (by decide +kernel)
theorem nw_566 : (Jvm.Cond.eq (Jvm.Term.length (Jvm.Term.field (Jvm.Term.string "BeaconIndexModel" 289) "java/lang/String" "value" "[B")) (Jvm.Term.int 4)) ∈ flatA gvn [] := List.mem_of_getElem? (i := 566) (by decide +kernel)
theorem gk_63 {A : Array Value} {s : State} {G : XG} (hG : gs G = s) (hw : gvn.before A s = true) (hd : ∀ k, k ≠ 104 → gd G k = xad A s (xtmf k)) (hS : u_Kn s "java/lang/String" xF14 2 (gC G 14) (gI G 14)) (hA : ∀ t : Nat, xaok t = true → s.vm.findClass ("[" ++ (xaft t).toString) = some (gA G t)) : gd G 63 < gB G ∧ xCRw G s.heap (gd G 63) 103 4 (xpl xH0 (-65)) := by
  refine ga_arr hG (tm := (Jvm.Term.field (Jvm.Term.string "BeaconIndexModel" 289) "java/lang/String" "value" "[B")) (nm := "[B") (t := 103) (N := 4) [98, 111, 100, 121] (by decide) (by decide) (fun _ => trivial) (by decide) (gw_of hw nw_565) (gw_of hw nw_566) ?_ (by decide +kernel) (fun _ => ⟨gw_of hw nw_663, by have := hA 103 rfl; rw [← this]; rfl⟩) (hd 63 (by decide))
  intro j hj
  match j, hj with
  | 0, _ => exact (va_eqt (gw_of hw nw_567)).trans (congrArg (fun z => some (Value.int z)) (by decide : (98 : Int32) = Int32.ofInt 98))
  | 1, _ => exact (va_eqt (gw_of hw nw_568)).trans (congrArg (fun z => some (Value.int z)) (by decide : (111 : Int32) = Int32.ofInt 111))
  | 2, _ => exact (va_eqt (gw_of hw nw_569)).trans (congrArg (fun z => some (Value.int z)) (by decide : (100 : Int32) = Int32.ofInt 100))
  | 3, _ => exact (va_eqt (gw_of hw nw_570)).trans (congrArg (fun z => some (Value.int z)) (by decide : (121 : Int32) = Int32.ofInt 121))
  | n + 4, h => exact absurd h (by omega)
theorem nw_572 : (Jvm.Cond.exactly (Jvm.Term.string "BeaconIndexModel" 487) "java/lang/String") ∈ flatA gvn [] := List.mem_of_getElem? (i := 572) (by decide +kernel)
theorem nw_573 : (Jvm.Cond.eq (Jvm.Term.field (Jvm.Term.string "BeaconIndexModel" 487) "java/lang/String" "coder" "B") (Jvm.Term.int 0)) ∈ flatA gvn [] := List.mem_of_getElem? (i := 573) (by decide +kernel)
theorem nw_664 : (Jvm.Cond.exactly (Jvm.Term.field (Jvm.Term.string "BeaconIndexModel" 487) "java/lang/String" "value" "[B") "[B") ∈ flatA gvn [] := List.mem_of_getElem? (i := 664) (by decide +kernel)
theorem gk_64 {A : Array Value} {s : State} {G : XG} (hG : gs G = s) (hw : gvn.before A s = true) (hd : ∀ k, k ≠ 104 → gd G k = xad A s (xtmf k)) (hS : u_Kn s "java/lang/String" xF14 2 (gC G 14) (gI G 14)) (hA : ∀ t : Nat, xaok t = true → s.vm.findClass ("[" ++ (xaft t).toString) = some (gA G t)) : gd G 64 < gB G ∧ xCRw G s.heap (gd G 64) 14 2 (xpl xH0 (-66)) := ga_str hG hS (gw_of hw nw_572) (gw_of hw nw_573) (gw_of hw nw_664) (hd 64 (by decide)) (hd 65 (by decide)) (by decide +kernel) (by decide +kernel)
theorem nw_576 : (Jvm.Cond.eq (Jvm.Term.elem (Jvm.Term.field (Jvm.Term.string "BeaconIndexModel" 487) "java/lang/String" "value" "[B") (Jvm.Term.int 0)) (Jvm.Term.int 116)) ∈ flatA gvn [] := List.mem_of_getElem? (i := 576) (by decide +kernel)
theorem nw_577 : (Jvm.Cond.eq (Jvm.Term.elem (Jvm.Term.field (Jvm.Term.string "BeaconIndexModel" 487) "java/lang/String" "value" "[B") (Jvm.Term.int 1)) (Jvm.Term.int 104)) ∈ flatA gvn [] := List.mem_of_getElem? (i := 577) (by decide +kernel)
theorem nw_578 : (Jvm.Cond.eq (Jvm.Term.elem (Jvm.Term.field (Jvm.Term.string "BeaconIndexModel" 487) "java/lang/String" "value" "[B") (Jvm.Term.int 2)) (Jvm.Term.int 101)) ∈ flatA gvn [] := List.mem_of_getElem? (i := 578) (by decide +kernel)
theorem nw_574 : (Jvm.Cond.arrayOf (Jvm.Term.field (Jvm.Term.string "BeaconIndexModel" 487) "java/lang/String" "value" "[B") Jvm.ClassFile.FieldType.byte) ∈ flatA gvn [] := List.mem_of_getElem? (i := 574) (by decide +kernel)
theorem nw_575 : (Jvm.Cond.eq (Jvm.Term.length (Jvm.Term.field (Jvm.Term.string "BeaconIndexModel" 487) "java/lang/String" "value" "[B")) (Jvm.Term.int 3)) ∈ flatA gvn [] := List.mem_of_getElem? (i := 575) (by decide +kernel)
theorem gk_65 {A : Array Value} {s : State} {G : XG} (hG : gs G = s) (hw : gvn.before A s = true) (hd : ∀ k, k ≠ 104 → gd G k = xad A s (xtmf k)) (hS : u_Kn s "java/lang/String" xF14 2 (gC G 14) (gI G 14)) (hA : ∀ t : Nat, xaok t = true → s.vm.findClass ("[" ++ (xaft t).toString) = some (gA G t)) : gd G 65 < gB G ∧ xCRw G s.heap (gd G 65) 103 3 (xpl xH0 (-67)) := by
  refine ga_arr hG (tm := (Jvm.Term.field (Jvm.Term.string "BeaconIndexModel" 487) "java/lang/String" "value" "[B")) (nm := "[B") (t := 103) (N := 3) [116, 104, 101] (by decide) (by decide) (fun _ => trivial) (by decide) (gw_of hw nw_574) (gw_of hw nw_575) ?_ (by decide +kernel) (fun _ => ⟨gw_of hw nw_664, by have := hA 103 rfl; rw [← this]; rfl⟩) (hd 65 (by decide))
  intro j hj
  match j, hj with
  | 0, _ => exact (va_eqt (gw_of hw nw_576)).trans (congrArg (fun z => some (Value.int z)) (by decide : (116 : Int32) = Int32.ofInt 116))
  | 1, _ => exact (va_eqt (gw_of hw nw_577)).trans (congrArg (fun z => some (Value.int z)) (by decide : (104 : Int32) = Int32.ofInt 104))
  | 2, _ => exact (va_eqt (gw_of hw nw_578)).trans (congrArg (fun z => some (Value.int z)) (by decide : (101 : Int32) = Int32.ofInt 101))
  | n + 3, h => exact absurd h (by omega)
theorem nw_580 : (Jvm.Cond.exactly (Jvm.Term.string "BeaconIndexModel" 489) "java/lang/String") ∈ flatA gvn [] := List.mem_of_getElem? (i := 580) (by decide +kernel)
theorem nw_581 : (Jvm.Cond.eq (Jvm.Term.field (Jvm.Term.string "BeaconIndexModel" 489) "java/lang/String" "coder" "B") (Jvm.Term.int 0)) ∈ flatA gvn [] := List.mem_of_getElem? (i := 581) (by decide +kernel)
theorem nw_665 : (Jvm.Cond.exactly (Jvm.Term.field (Jvm.Term.string "BeaconIndexModel" 489) "java/lang/String" "value" "[B") "[B") ∈ flatA gvn [] := List.mem_of_getElem? (i := 665) (by decide +kernel)
theorem gk_66 {A : Array Value} {s : State} {G : XG} (hG : gs G = s) (hw : gvn.before A s = true) (hd : ∀ k, k ≠ 104 → gd G k = xad A s (xtmf k)) (hS : u_Kn s "java/lang/String" xF14 2 (gC G 14) (gI G 14)) (hA : ∀ t : Nat, xaok t = true → s.vm.findClass ("[" ++ (xaft t).toString) = some (gA G t)) : gd G 66 < gB G ∧ xCRw G s.heap (gd G 66) 14 2 (xpl xH0 (-68)) := ga_str hG hS (gw_of hw nw_580) (gw_of hw nw_581) (gw_of hw nw_665) (hd 66 (by decide)) (hd 67 (by decide)) (by decide +kernel) (by decide +kernel)
theorem nw_584 : (Jvm.Cond.eq (Jvm.Term.elem (Jvm.Term.field (Jvm.Term.string "BeaconIndexModel" 489) "java/lang/String" "value" "[B") (Jvm.Term.int 0)) (Jvm.Term.int 97)) ∈ flatA gvn [] := List.mem_of_getElem? (i := 584) (by decide +kernel)
theorem nw_582 : (Jvm.Cond.arrayOf (Jvm.Term.field (Jvm.Term.string "BeaconIndexModel" 489) "java/lang/String" "value" "[B") Jvm.ClassFile.FieldType.byte) ∈ flatA gvn [] := List.mem_of_getElem? (i := 582) (by decide +kernel)
theorem nw_583 : (Jvm.Cond.eq (Jvm.Term.length (Jvm.Term.field (Jvm.Term.string "BeaconIndexModel" 489) "java/lang/String" "value" "[B")) (Jvm.Term.int 1)) ∈ flatA gvn [] := List.mem_of_getElem? (i := 583) (by decide +kernel)
theorem gk_67 {A : Array Value} {s : State} {G : XG} (hG : gs G = s) (hw : gvn.before A s = true) (hd : ∀ k, k ≠ 104 → gd G k = xad A s (xtmf k)) (hS : u_Kn s "java/lang/String" xF14 2 (gC G 14) (gI G 14)) (hA : ∀ t : Nat, xaok t = true → s.vm.findClass ("[" ++ (xaft t).toString) = some (gA G t)) : gd G 67 < gB G ∧ xCRw G s.heap (gd G 67) 103 1 (xpl xH0 (-69)) := by
  refine ga_arr hG (tm := (Jvm.Term.field (Jvm.Term.string "BeaconIndexModel" 489) "java/lang/String" "value" "[B")) (nm := "[B") (t := 103) (N := 1) [97] (by decide) (by decide) (fun _ => trivial) (by decide) (gw_of hw nw_582) (gw_of hw nw_583) ?_ (by decide +kernel) (fun _ => ⟨gw_of hw nw_665, by have := hA 103 rfl; rw [← this]; rfl⟩) (hd 67 (by decide))
  intro j hj
  match j, hj with
  | 0, _ => exact (va_eqt (gw_of hw nw_584)).trans (congrArg (fun z => some (Value.int z)) (by decide : (97 : Int32) = Int32.ofInt 97))
  | n + 1, h => exact absurd h (by omega)
theorem nw_586 : (Jvm.Cond.exactly (Jvm.Term.string "BeaconIndexModel" 491) "java/lang/String") ∈ flatA gvn [] := List.mem_of_getElem? (i := 586) (by decide +kernel)
theorem nw_587 : (Jvm.Cond.eq (Jvm.Term.field (Jvm.Term.string "BeaconIndexModel" 491) "java/lang/String" "coder" "B") (Jvm.Term.int 0)) ∈ flatA gvn [] := List.mem_of_getElem? (i := 587) (by decide +kernel)
theorem nw_666 : (Jvm.Cond.exactly (Jvm.Term.field (Jvm.Term.string "BeaconIndexModel" 491) "java/lang/String" "value" "[B") "[B") ∈ flatA gvn [] := List.mem_of_getElem? (i := 666) (by decide +kernel)
theorem gk_68 {A : Array Value} {s : State} {G : XG} (hG : gs G = s) (hw : gvn.before A s = true) (hd : ∀ k, k ≠ 104 → gd G k = xad A s (xtmf k)) (hS : u_Kn s "java/lang/String" xF14 2 (gC G 14) (gI G 14)) (hA : ∀ t : Nat, xaok t = true → s.vm.findClass ("[" ++ (xaft t).toString) = some (gA G t)) : gd G 68 < gB G ∧ xCRw G s.heap (gd G 68) 14 2 (xpl xH0 (-70)) := ga_str hG hS (gw_of hw nw_586) (gw_of hw nw_587) (gw_of hw nw_666) (hd 68 (by decide)) (hd 69 (by decide)) (by decide +kernel) (by decide +kernel)
theorem nw_590 : (Jvm.Cond.eq (Jvm.Term.elem (Jvm.Term.field (Jvm.Term.string "BeaconIndexModel" 491) "java/lang/String" "value" "[B") (Jvm.Term.int 0)) (Jvm.Term.int 97)) ∈ flatA gvn [] := List.mem_of_getElem? (i := 590) (by decide +kernel)
theorem nw_591 : (Jvm.Cond.eq (Jvm.Term.elem (Jvm.Term.field (Jvm.Term.string "BeaconIndexModel" 491) "java/lang/String" "value" "[B") (Jvm.Term.int 1)) (Jvm.Term.int 110)) ∈ flatA gvn [] := List.mem_of_getElem? (i := 591) (by decide +kernel)
theorem nw_588 : (Jvm.Cond.arrayOf (Jvm.Term.field (Jvm.Term.string "BeaconIndexModel" 491) "java/lang/String" "value" "[B") Jvm.ClassFile.FieldType.byte) ∈ flatA gvn [] := List.mem_of_getElem? (i := 588) (by decide +kernel)
theorem nw_589 : (Jvm.Cond.eq (Jvm.Term.length (Jvm.Term.field (Jvm.Term.string "BeaconIndexModel" 491) "java/lang/String" "value" "[B")) (Jvm.Term.int 2)) ∈ flatA gvn [] := List.mem_of_getElem? (i := 589) (by decide +kernel)
theorem gk_69 {A : Array Value} {s : State} {G : XG} (hG : gs G = s) (hw : gvn.before A s = true) (hd : ∀ k, k ≠ 104 → gd G k = xad A s (xtmf k)) (hS : u_Kn s "java/lang/String" xF14 2 (gC G 14) (gI G 14)) (hA : ∀ t : Nat, xaok t = true → s.vm.findClass ("[" ++ (xaft t).toString) = some (gA G t)) : gd G 69 < gB G ∧ xCRw G s.heap (gd G 69) 103 2 (xpl xH0 (-71)) := by
  refine ga_arr hG (tm := (Jvm.Term.field (Jvm.Term.string "BeaconIndexModel" 491) "java/lang/String" "value" "[B")) (nm := "[B") (t := 103) (N := 2) [97, 110] (by decide) (by decide) (fun _ => trivial) (by decide) (gw_of hw nw_588) (gw_of hw nw_589) ?_ (by decide +kernel) (fun _ => ⟨gw_of hw nw_666, by have := hA 103 rfl; rw [← this]; rfl⟩) (hd 69 (by decide))
  intro j hj
  match j, hj with
  | 0, _ => exact (va_eqt (gw_of hw nw_590)).trans (congrArg (fun z => some (Value.int z)) (by decide : (97 : Int32) = Int32.ofInt 97))
  | 1, _ => exact (va_eqt (gw_of hw nw_591)).trans (congrArg (fun z => some (Value.int z)) (by decide : (110 : Int32) = Int32.ofInt 110))
  | n + 2, h => exact absurd h (by omega)
theorem nw_593 : (Jvm.Cond.exactly (Jvm.Term.string "BeaconIndexModel" 493) "java/lang/String") ∈ flatA gvn [] := List.mem_of_getElem? (i := 593) (by decide +kernel)
theorem nw_594 : (Jvm.Cond.eq (Jvm.Term.field (Jvm.Term.string "BeaconIndexModel" 493) "java/lang/String" "coder" "B") (Jvm.Term.int 0)) ∈ flatA gvn [] := List.mem_of_getElem? (i := 594) (by decide +kernel)
theorem nw_667 : (Jvm.Cond.exactly (Jvm.Term.field (Jvm.Term.string "BeaconIndexModel" 493) "java/lang/String" "value" "[B") "[B") ∈ flatA gvn [] := List.mem_of_getElem? (i := 667) (by decide +kernel)
theorem gk_70 {A : Array Value} {s : State} {G : XG} (hG : gs G = s) (hw : gvn.before A s = true) (hd : ∀ k, k ≠ 104 → gd G k = xad A s (xtmf k)) (hS : u_Kn s "java/lang/String" xF14 2 (gC G 14) (gI G 14)) (hA : ∀ t : Nat, xaok t = true → s.vm.findClass ("[" ++ (xaft t).toString) = some (gA G t)) : gd G 70 < gB G ∧ xCRw G s.heap (gd G 70) 14 2 (xpl xH0 (-72)) := ga_str hG hS (gw_of hw nw_593) (gw_of hw nw_594) (gw_of hw nw_667) (hd 70 (by decide)) (hd 71 (by decide)) (by decide +kernel) (by decide +kernel)
theorem nw_597 : (Jvm.Cond.eq (Jvm.Term.elem (Jvm.Term.field (Jvm.Term.string "BeaconIndexModel" 493) "java/lang/String" "value" "[B") (Jvm.Term.int 0)) (Jvm.Term.int 111)) ∈ flatA gvn [] := List.mem_of_getElem? (i := 597) (by decide +kernel)
theorem nw_598 : (Jvm.Cond.eq (Jvm.Term.elem (Jvm.Term.field (Jvm.Term.string "BeaconIndexModel" 493) "java/lang/String" "value" "[B") (Jvm.Term.int 1)) (Jvm.Term.int 102)) ∈ flatA gvn [] := List.mem_of_getElem? (i := 598) (by decide +kernel)
theorem nw_595 : (Jvm.Cond.arrayOf (Jvm.Term.field (Jvm.Term.string "BeaconIndexModel" 493) "java/lang/String" "value" "[B") Jvm.ClassFile.FieldType.byte) ∈ flatA gvn [] := List.mem_of_getElem? (i := 595) (by decide +kernel)
theorem nw_596 : (Jvm.Cond.eq (Jvm.Term.length (Jvm.Term.field (Jvm.Term.string "BeaconIndexModel" 493) "java/lang/String" "value" "[B")) (Jvm.Term.int 2)) ∈ flatA gvn [] := List.mem_of_getElem? (i := 596) (by decide +kernel)
theorem gk_71 {A : Array Value} {s : State} {G : XG} (hG : gs G = s) (hw : gvn.before A s = true) (hd : ∀ k, k ≠ 104 → gd G k = xad A s (xtmf k)) (hS : u_Kn s "java/lang/String" xF14 2 (gC G 14) (gI G 14)) (hA : ∀ t : Nat, xaok t = true → s.vm.findClass ("[" ++ (xaft t).toString) = some (gA G t)) : gd G 71 < gB G ∧ xCRw G s.heap (gd G 71) 103 2 (xpl xH0 (-73)) := by
  refine ga_arr hG (tm := (Jvm.Term.field (Jvm.Term.string "BeaconIndexModel" 493) "java/lang/String" "value" "[B")) (nm := "[B") (t := 103) (N := 2) [111, 102] (by decide) (by decide) (fun _ => trivial) (by decide) (gw_of hw nw_595) (gw_of hw nw_596) ?_ (by decide +kernel) (fun _ => ⟨gw_of hw nw_667, by have := hA 103 rfl; rw [← this]; rfl⟩) (hd 71 (by decide))
  intro j hj
  match j, hj with
  | 0, _ => exact (va_eqt (gw_of hw nw_597)).trans (congrArg (fun z => some (Value.int z)) (by decide : (111 : Int32) = Int32.ofInt 111))
  | 1, _ => exact (va_eqt (gw_of hw nw_598)).trans (congrArg (fun z => some (Value.int z)) (by decide : (102 : Int32) = Int32.ofInt 102))
  | n + 2, h => exact absurd h (by omega)
theorem nw_600 : (Jvm.Cond.exactly (Jvm.Term.string "BeaconIndexModel" 495) "java/lang/String") ∈ flatA gvn [] := List.mem_of_getElem? (i := 600) (by decide +kernel)
theorem nw_601 : (Jvm.Cond.eq (Jvm.Term.field (Jvm.Term.string "BeaconIndexModel" 495) "java/lang/String" "coder" "B") (Jvm.Term.int 0)) ∈ flatA gvn [] := List.mem_of_getElem? (i := 601) (by decide +kernel)
theorem nw_668 : (Jvm.Cond.exactly (Jvm.Term.field (Jvm.Term.string "BeaconIndexModel" 495) "java/lang/String" "value" "[B") "[B") ∈ flatA gvn [] := List.mem_of_getElem? (i := 668) (by decide +kernel)
theorem gk_72 {A : Array Value} {s : State} {G : XG} (hG : gs G = s) (hw : gvn.before A s = true) (hd : ∀ k, k ≠ 104 → gd G k = xad A s (xtmf k)) (hS : u_Kn s "java/lang/String" xF14 2 (gC G 14) (gI G 14)) (hA : ∀ t : Nat, xaok t = true → s.vm.findClass ("[" ++ (xaft t).toString) = some (gA G t)) : gd G 72 < gB G ∧ xCRw G s.heap (gd G 72) 14 2 (xpl xH0 (-74)) := ga_str hG hS (gw_of hw nw_600) (gw_of hw nw_601) (gw_of hw nw_668) (hd 72 (by decide)) (hd 73 (by decide)) (by decide +kernel) (by decide +kernel)
theorem nw_604 : (Jvm.Cond.eq (Jvm.Term.elem (Jvm.Term.field (Jvm.Term.string "BeaconIndexModel" 495) "java/lang/String" "value" "[B") (Jvm.Term.int 0)) (Jvm.Term.int 97)) ∈ flatA gvn [] := List.mem_of_getElem? (i := 604) (by decide +kernel)
theorem nw_605 : (Jvm.Cond.eq (Jvm.Term.elem (Jvm.Term.field (Jvm.Term.string "BeaconIndexModel" 495) "java/lang/String" "value" "[B") (Jvm.Term.int 1)) (Jvm.Term.int 110)) ∈ flatA gvn [] := List.mem_of_getElem? (i := 605) (by decide +kernel)
theorem nw_606 : (Jvm.Cond.eq (Jvm.Term.elem (Jvm.Term.field (Jvm.Term.string "BeaconIndexModel" 495) "java/lang/String" "value" "[B") (Jvm.Term.int 2)) (Jvm.Term.int 100)) ∈ flatA gvn [] := List.mem_of_getElem? (i := 606) (by decide +kernel)
theorem nw_602 : (Jvm.Cond.arrayOf (Jvm.Term.field (Jvm.Term.string "BeaconIndexModel" 495) "java/lang/String" "value" "[B") Jvm.ClassFile.FieldType.byte) ∈ flatA gvn [] := List.mem_of_getElem? (i := 602) (by decide +kernel)
theorem nw_603 : (Jvm.Cond.eq (Jvm.Term.length (Jvm.Term.field (Jvm.Term.string "BeaconIndexModel" 495) "java/lang/String" "value" "[B")) (Jvm.Term.int 3)) ∈ flatA gvn [] := List.mem_of_getElem? (i := 603) (by decide +kernel)
theorem gk_73 {A : Array Value} {s : State} {G : XG} (hG : gs G = s) (hw : gvn.before A s = true) (hd : ∀ k, k ≠ 104 → gd G k = xad A s (xtmf k)) (hS : u_Kn s "java/lang/String" xF14 2 (gC G 14) (gI G 14)) (hA : ∀ t : Nat, xaok t = true → s.vm.findClass ("[" ++ (xaft t).toString) = some (gA G t)) : gd G 73 < gB G ∧ xCRw G s.heap (gd G 73) 103 3 (xpl xH0 (-75)) := by
  refine ga_arr hG (tm := (Jvm.Term.field (Jvm.Term.string "BeaconIndexModel" 495) "java/lang/String" "value" "[B")) (nm := "[B") (t := 103) (N := 3) [97, 110, 100] (by decide) (by decide) (fun _ => trivial) (by decide) (gw_of hw nw_602) (gw_of hw nw_603) ?_ (by decide +kernel) (fun _ => ⟨gw_of hw nw_668, by have := hA 103 rfl; rw [← this]; rfl⟩) (hd 73 (by decide))
  intro j hj
  match j, hj with
  | 0, _ => exact (va_eqt (gw_of hw nw_604)).trans (congrArg (fun z => some (Value.int z)) (by decide : (97 : Int32) = Int32.ofInt 97))
  | 1, _ => exact (va_eqt (gw_of hw nw_605)).trans (congrArg (fun z => some (Value.int z)) (by decide : (110 : Int32) = Int32.ofInt 110))
  | 2, _ => exact (va_eqt (gw_of hw nw_606)).trans (congrArg (fun z => some (Value.int z)) (by decide : (100 : Int32) = Int32.ofInt 100))
  | n + 3, h => exact absurd h (by omega)
theorem nw_608 : (Jvm.Cond.exactly (Jvm.Term.string "BeaconIndexModel" 497) "java/lang/String") ∈ flatA gvn [] := List.mem_of_getElem? (i := 608) (by decide +kernel)
theorem nw_609 : (Jvm.Cond.eq (Jvm.Term.field (Jvm.Term.string "BeaconIndexModel" 497) "java/lang/String" "coder" "B") (Jvm.Term.int 0)) ∈ flatA gvn [] := List.mem_of_getElem? (i := 609) (by decide +kernel)
theorem nw_669 : (Jvm.Cond.exactly (Jvm.Term.field (Jvm.Term.string "BeaconIndexModel" 497) "java/lang/String" "value" "[B") "[B") ∈ flatA gvn [] := List.mem_of_getElem? (i := 669) (by decide +kernel)
theorem gk_74 {A : Array Value} {s : State} {G : XG} (hG : gs G = s) (hw : gvn.before A s = true) (hd : ∀ k, k ≠ 104 → gd G k = xad A s (xtmf k)) (hS : u_Kn s "java/lang/String" xF14 2 (gC G 14) (gI G 14)) (hA : ∀ t : Nat, xaok t = true → s.vm.findClass ("[" ++ (xaft t).toString) = some (gA G t)) : gd G 74 < gB G ∧ xCRw G s.heap (gd G 74) 14 2 (xpl xH0 (-76)) := ga_str hG hS (gw_of hw nw_608) (gw_of hw nw_609) (gw_of hw nw_669) (hd 74 (by decide)) (hd 75 (by decide)) (by decide +kernel) (by decide +kernel)
theorem nw_612 : (Jvm.Cond.eq (Jvm.Term.elem (Jvm.Term.field (Jvm.Term.string "BeaconIndexModel" 497) "java/lang/String" "value" "[B") (Jvm.Term.int 0)) (Jvm.Term.int 111)) ∈ flatA gvn [] := List.mem_of_getElem? (i := 612) (by decide +kernel)
theorem nw_613 : (Jvm.Cond.eq (Jvm.Term.elem (Jvm.Term.field (Jvm.Term.string "BeaconIndexModel" 497) "java/lang/String" "value" "[B") (Jvm.Term.int 1)) (Jvm.Term.int 114)) ∈ flatA gvn [] := List.mem_of_getElem? (i := 613) (by decide +kernel)
theorem nw_610 : (Jvm.Cond.arrayOf (Jvm.Term.field (Jvm.Term.string "BeaconIndexModel" 497) "java/lang/String" "value" "[B") Jvm.ClassFile.FieldType.byte) ∈ flatA gvn [] := List.mem_of_getElem? (i := 610) (by decide +kernel)
theorem nw_611 : (Jvm.Cond.eq (Jvm.Term.length (Jvm.Term.field (Jvm.Term.string "BeaconIndexModel" 497) "java/lang/String" "value" "[B")) (Jvm.Term.int 2)) ∈ flatA gvn [] := List.mem_of_getElem? (i := 611) (by decide +kernel)
theorem gk_75 {A : Array Value} {s : State} {G : XG} (hG : gs G = s) (hw : gvn.before A s = true) (hd : ∀ k, k ≠ 104 → gd G k = xad A s (xtmf k)) (hS : u_Kn s "java/lang/String" xF14 2 (gC G 14) (gI G 14)) (hA : ∀ t : Nat, xaok t = true → s.vm.findClass ("[" ++ (xaft t).toString) = some (gA G t)) : gd G 75 < gB G ∧ xCRw G s.heap (gd G 75) 103 2 (xpl xH0 (-77)) := by
  refine ga_arr hG (tm := (Jvm.Term.field (Jvm.Term.string "BeaconIndexModel" 497) "java/lang/String" "value" "[B")) (nm := "[B") (t := 103) (N := 2) [111, 114] (by decide) (by decide) (fun _ => trivial) (by decide) (gw_of hw nw_610) (gw_of hw nw_611) ?_ (by decide +kernel) (fun _ => ⟨gw_of hw nw_669, by have := hA 103 rfl; rw [← this]; rfl⟩) (hd 75 (by decide))
  intro j hj
  match j, hj with
  | 0, _ => exact (va_eqt (gw_of hw nw_612)).trans (congrArg (fun z => some (Value.int z)) (by decide : (111 : Int32) = Int32.ofInt 111))
  | 1, _ => exact (va_eqt (gw_of hw nw_613)).trans (congrArg (fun z => some (Value.int z)) (by decide : (114 : Int32) = Int32.ofInt 114))
  | n + 2, h => exact absurd h (by omega)
theorem nw_615 : (Jvm.Cond.exactly (Jvm.Term.string "BeaconIndexModel" 499) "java/lang/String") ∈ flatA gvn [] := List.mem_of_getElem? (i := 615) (by decide +kernel)
theorem nw_616 : (Jvm.Cond.eq (Jvm.Term.field (Jvm.Term.string "BeaconIndexModel" 499) "java/lang/String" "coder" "B") (Jvm.Term.int 0)) ∈ flatA gvn [] := List.mem_of_getElem? (i := 616) (by decide +kernel)
theorem nw_670 : (Jvm.Cond.exactly (Jvm.Term.field (Jvm.Term.string "BeaconIndexModel" 499) "java/lang/String" "value" "[B") "[B") ∈ flatA gvn [] := List.mem_of_getElem? (i := 670) (by decide +kernel)
theorem gk_76 {A : Array Value} {s : State} {G : XG} (hG : gs G = s) (hw : gvn.before A s = true) (hd : ∀ k, k ≠ 104 → gd G k = xad A s (xtmf k)) (hS : u_Kn s "java/lang/String" xF14 2 (gC G 14) (gI G 14)) (hA : ∀ t : Nat, xaok t = true → s.vm.findClass ("[" ++ (xaft t).toString) = some (gA G t)) : gd G 76 < gB G ∧ xCRw G s.heap (gd G 76) 14 2 (xpl xH0 (-78)) := ga_str hG hS (gw_of hw nw_615) (gw_of hw nw_616) (gw_of hw nw_670) (hd 76 (by decide)) (hd 77 (by decide)) (by decide +kernel) (by decide +kernel)
theorem nw_619 : (Jvm.Cond.eq (Jvm.Term.elem (Jvm.Term.field (Jvm.Term.string "BeaconIndexModel" 499) "java/lang/String" "value" "[B") (Jvm.Term.int 0)) (Jvm.Term.int 116)) ∈ flatA gvn [] := List.mem_of_getElem? (i := 619) (by decide +kernel)
theorem nw_620 : (Jvm.Cond.eq (Jvm.Term.elem (Jvm.Term.field (Jvm.Term.string "BeaconIndexModel" 499) "java/lang/String" "value" "[B") (Jvm.Term.int 1)) (Jvm.Term.int 111)) ∈ flatA gvn [] := List.mem_of_getElem? (i := 620) (by decide +kernel)
theorem nw_617 : (Jvm.Cond.arrayOf (Jvm.Term.field (Jvm.Term.string "BeaconIndexModel" 499) "java/lang/String" "value" "[B") Jvm.ClassFile.FieldType.byte) ∈ flatA gvn [] := List.mem_of_getElem? (i := 617) (by decide +kernel)
theorem nw_618 : (Jvm.Cond.eq (Jvm.Term.length (Jvm.Term.field (Jvm.Term.string "BeaconIndexModel" 499) "java/lang/String" "value" "[B")) (Jvm.Term.int 2)) ∈ flatA gvn [] := List.mem_of_getElem? (i := 618) (by decide +kernel)
theorem gk_77 {A : Array Value} {s : State} {G : XG} (hG : gs G = s) (hw : gvn.before A s = true) (hd : ∀ k, k ≠ 104 → gd G k = xad A s (xtmf k)) (hS : u_Kn s "java/lang/String" xF14 2 (gC G 14) (gI G 14)) (hA : ∀ t : Nat, xaok t = true → s.vm.findClass ("[" ++ (xaft t).toString) = some (gA G t)) : gd G 77 < gB G ∧ xCRw G s.heap (gd G 77) 103 2 (xpl xH0 (-79)) := by
  refine ga_arr hG (tm := (Jvm.Term.field (Jvm.Term.string "BeaconIndexModel" 499) "java/lang/String" "value" "[B")) (nm := "[B") (t := 103) (N := 2) [116, 111] (by decide) (by decide) (fun _ => trivial) (by decide) (gw_of hw nw_617) (gw_of hw nw_618) ?_ (by decide +kernel) (fun _ => ⟨gw_of hw nw_670, by have := hA 103 rfl; rw [← this]; rfl⟩) (hd 77 (by decide))
  intro j hj
  match j, hj with
  | 0, _ => exact (va_eqt (gw_of hw nw_619)).trans (congrArg (fun z => some (Value.int z)) (by decide : (116 : Int32) = Int32.ofInt 116))
  | 1, _ => exact (va_eqt (gw_of hw nw_620)).trans (congrArg (fun z => some (Value.int z)) (by decide : (111 : Int32) = Int32.ofInt 111))
  | n + 2, h => exact absurd h (by omega)
theorem nw_622 : (Jvm.Cond.exactly (Jvm.Term.string "BeaconIndexModel" 501) "java/lang/String") ∈ flatA gvn [] := List.mem_of_getElem? (i := 622) (by decide +kernel)
theorem nw_623 : (Jvm.Cond.eq (Jvm.Term.field (Jvm.Term.string "BeaconIndexModel" 501) "java/lang/String" "coder" "B") (Jvm.Term.int 0)) ∈ flatA gvn [] := List.mem_of_getElem? (i := 623) (by decide +kernel)
theorem nw_671 : (Jvm.Cond.exactly (Jvm.Term.field (Jvm.Term.string "BeaconIndexModel" 501) "java/lang/String" "value" "[B") "[B") ∈ flatA gvn [] := List.mem_of_getElem? (i := 671) (by decide +kernel)
theorem gk_78 {A : Array Value} {s : State} {G : XG} (hG : gs G = s) (hw : gvn.before A s = true) (hd : ∀ k, k ≠ 104 → gd G k = xad A s (xtmf k)) (hS : u_Kn s "java/lang/String" xF14 2 (gC G 14) (gI G 14)) (hA : ∀ t : Nat, xaok t = true → s.vm.findClass ("[" ++ (xaft t).toString) = some (gA G t)) : gd G 78 < gB G ∧ xCRw G s.heap (gd G 78) 14 2 (xpl xH0 (-80)) := ga_str hG hS (gw_of hw nw_622) (gw_of hw nw_623) (gw_of hw nw_671) (hd 78 (by decide)) (hd 79 (by decide)) (by decide +kernel) (by decide +kernel)
theorem nw_626 : (Jvm.Cond.eq (Jvm.Term.elem (Jvm.Term.field (Jvm.Term.string "BeaconIndexModel" 501) "java/lang/String" "value" "[B") (Jvm.Term.int 0)) (Jvm.Term.int 105)) ∈ flatA gvn [] := List.mem_of_getElem? (i := 626) (by decide +kernel)
theorem nw_627 : (Jvm.Cond.eq (Jvm.Term.elem (Jvm.Term.field (Jvm.Term.string "BeaconIndexModel" 501) "java/lang/String" "value" "[B") (Jvm.Term.int 1)) (Jvm.Term.int 110)) ∈ flatA gvn [] := List.mem_of_getElem? (i := 627) (by decide +kernel)
theorem nw_624 : (Jvm.Cond.arrayOf (Jvm.Term.field (Jvm.Term.string "BeaconIndexModel" 501) "java/lang/String" "value" "[B") Jvm.ClassFile.FieldType.byte) ∈ flatA gvn [] := List.mem_of_getElem? (i := 624) (by decide +kernel)
theorem nw_625 : (Jvm.Cond.eq (Jvm.Term.length (Jvm.Term.field (Jvm.Term.string "BeaconIndexModel" 501) "java/lang/String" "value" "[B")) (Jvm.Term.int 2)) ∈ flatA gvn [] := List.mem_of_getElem? (i := 625) (by decide +kernel)
theorem gk_79 {A : Array Value} {s : State} {G : XG} (hG : gs G = s) (hw : gvn.before A s = true) (hd : ∀ k, k ≠ 104 → gd G k = xad A s (xtmf k)) (hS : u_Kn s "java/lang/String" xF14 2 (gC G 14) (gI G 14)) (hA : ∀ t : Nat, xaok t = true → s.vm.findClass ("[" ++ (xaft t).toString) = some (gA G t)) : gd G 79 < gB G ∧ xCRw G s.heap (gd G 79) 103 2 (xpl xH0 (-81)) := by
  refine ga_arr hG (tm := (Jvm.Term.field (Jvm.Term.string "BeaconIndexModel" 501) "java/lang/String" "value" "[B")) (nm := "[B") (t := 103) (N := 2) [105, 110] (by decide) (by decide) (fun _ => trivial) (by decide) (gw_of hw nw_624) (gw_of hw nw_625) ?_ (by decide +kernel) (fun _ => ⟨gw_of hw nw_671, by have := hA 103 rfl; rw [← this]; rfl⟩) (hd 79 (by decide))
  intro j hj
  match j, hj with
  | 0, _ => exact (va_eqt (gw_of hw nw_626)).trans (congrArg (fun z => some (Value.int z)) (by decide : (105 : Int32) = Int32.ofInt 105))
  | 1, _ => exact (va_eqt (gw_of hw nw_627)).trans (congrArg (fun z => some (Value.int z)) (by decide : (110 : Int32) = Int32.ofInt 110))
  | n + 2, h => exact absurd h (by omega)
theorem nw_11 : (Jvm.Cond.eq (Jvm.Term.elem (Jvm.Term.static "BeaconIndex$Words" "POWERS" "[J") (Jvm.Term.int 0)) (Jvm.Term.long 1)) ∈ flatA gvn [] := List.mem_of_getElem? (i := 11) (by decide +kernel)
theorem nw_12 : (Jvm.Cond.eq (Jvm.Term.elem (Jvm.Term.static "BeaconIndex$Words" "POWERS" "[J") (Jvm.Term.int 1)) (Jvm.Term.long 37)) ∈ flatA gvn [] := List.mem_of_getElem? (i := 12) (by decide +kernel)
theorem nw_13 : (Jvm.Cond.eq (Jvm.Term.elem (Jvm.Term.static "BeaconIndex$Words" "POWERS" "[J") (Jvm.Term.int 2)) (Jvm.Term.long 1369)) ∈ flatA gvn [] := List.mem_of_getElem? (i := 13) (by decide +kernel)
theorem nw_14 : (Jvm.Cond.eq (Jvm.Term.elem (Jvm.Term.static "BeaconIndex$Words" "POWERS" "[J") (Jvm.Term.int 3)) (Jvm.Term.long 50653)) ∈ flatA gvn [] := List.mem_of_getElem? (i := 14) (by decide +kernel)
theorem nw_15 : (Jvm.Cond.eq (Jvm.Term.elem (Jvm.Term.static "BeaconIndex$Words" "POWERS" "[J") (Jvm.Term.int 4)) (Jvm.Term.long 1874161)) ∈ flatA gvn [] := List.mem_of_getElem? (i := 15) (by decide +kernel)
theorem nw_16 : (Jvm.Cond.eq (Jvm.Term.elem (Jvm.Term.static "BeaconIndex$Words" "POWERS" "[J") (Jvm.Term.int 5)) (Jvm.Term.long 69343957)) ∈ flatA gvn [] := List.mem_of_getElem? (i := 16) (by decide +kernel)
theorem nw_17 : (Jvm.Cond.eq (Jvm.Term.elem (Jvm.Term.static "BeaconIndex$Words" "POWERS" "[J") (Jvm.Term.int 6)) (Jvm.Term.long 2565726409)) ∈ flatA gvn [] := List.mem_of_getElem? (i := 17) (by decide +kernel)
theorem nw_18 : (Jvm.Cond.eq (Jvm.Term.elem (Jvm.Term.static "BeaconIndex$Words" "POWERS" "[J") (Jvm.Term.int 7)) (Jvm.Term.long 94931877133)) ∈ flatA gvn [] := List.mem_of_getElem? (i := 18) (by decide +kernel)
theorem nw_19 : (Jvm.Cond.eq (Jvm.Term.elem (Jvm.Term.static "BeaconIndex$Words" "POWERS" "[J") (Jvm.Term.int 8)) (Jvm.Term.long 3512479453921)) ∈ flatA gvn [] := List.mem_of_getElem? (i := 19) (by decide +kernel)
theorem nw_20 : (Jvm.Cond.eq (Jvm.Term.elem (Jvm.Term.static "BeaconIndex$Words" "POWERS" "[J") (Jvm.Term.int 9)) (Jvm.Term.long 129961739795077)) ∈ flatA gvn [] := List.mem_of_getElem? (i := 20) (by decide +kernel)
theorem nw_21 : (Jvm.Cond.eq (Jvm.Term.elem (Jvm.Term.static "BeaconIndex$Words" "POWERS" "[J") (Jvm.Term.int 10)) (Jvm.Term.long 4808584372417849)) ∈ flatA gvn [] := List.mem_of_getElem? (i := 21) (by decide +kernel)
theorem nw_22 : (Jvm.Cond.eq (Jvm.Term.elem (Jvm.Term.static "BeaconIndex$Words" "POWERS" "[J") (Jvm.Term.int 11)) (Jvm.Term.long 177917621779460413)) ∈ flatA gvn [] := List.mem_of_getElem? (i := 22) (by decide +kernel)
theorem nw_23 : (Jvm.Cond.eq (Jvm.Term.elem (Jvm.Term.static "BeaconIndex$Words" "POWERS" "[J") (Jvm.Term.int 12)) (Jvm.Term.long 6582952005840035281)) ∈ flatA gvn [] := List.mem_of_getElem? (i := 23) (by decide +kernel)
theorem nw_9 : (Jvm.Cond.arrayOf (Jvm.Term.static "BeaconIndex$Words" "POWERS" "[J") Jvm.ClassFile.FieldType.long) ∈ flatA gvn [] := List.mem_of_getElem? (i := 9) (by decide +kernel)
theorem nw_10 : (Jvm.Cond.eq (Jvm.Term.length (Jvm.Term.static "BeaconIndex$Words" "POWERS" "[J")) (Jvm.Term.int 13)) ∈ flatA gvn [] := List.mem_of_getElem? (i := 10) (by decide +kernel)
theorem nw_629 : (Jvm.Cond.exactly (Jvm.Term.static "BeaconIndex$Words" "POWERS" "[J") "[J") ∈ flatA gvn [] := List.mem_of_getElem? (i := 629) (by decide +kernel)
theorem gk_100 {A : Array Value} {s : State} {G : XG} (hG : gs G = s) (hw : gvn.before A s = true) (hd : ∀ k, k ≠ 104 → gd G k = xad A s (xtmf k)) (hS : u_Kn s "java/lang/String" xF14 2 (gC G 14) (gI G 14)) (hA : ∀ t : Nat, xaok t = true → s.vm.findClass ("[" ++ (xaft t).toString) = some (gA G t)) : gd G 100 < gB G ∧ xCRw G s.heap (gd G 100) 101 13 (xpl xH0 (-102)) := by
  refine ga_arr hG (tm := (Jvm.Term.static "BeaconIndex$Words" "POWERS" "[J")) (nm := "[J") (t := 101) (N := 13) [1, 37, 1369, 50653, 1874161, 69343957, 2565726409, 94931877133, 3512479453921, 129961739795077, 4808584372417849, 177917621779460413, 6582952005840035281] (by decide) (by decide) (fun _ => trivial) (by decide) (gw_of hw nw_9) (gw_of hw nw_10) ?_ (by decide +kernel) (fun _ => ⟨gw_of hw nw_629, by have := hA 101 rfl; rw [← this]; rfl⟩) (hd 100 (by decide))
  intro j hj
  match j, hj with
  | 0, _ => exact (va_eqtl (gw_of hw nw_11)).trans (congrArg (fun z => some (Value.long z)) (by decide : (1 : Int64) = Int64.ofInt 1))
  | 1, _ => exact (va_eqtl (gw_of hw nw_12)).trans (congrArg (fun z => some (Value.long z)) (by decide : (37 : Int64) = Int64.ofInt 37))
  | 2, _ => exact (va_eqtl (gw_of hw nw_13)).trans (congrArg (fun z => some (Value.long z)) (by decide : (1369 : Int64) = Int64.ofInt 1369))
  | 3, _ => exact (va_eqtl (gw_of hw nw_14)).trans (congrArg (fun z => some (Value.long z)) (by decide : (50653 : Int64) = Int64.ofInt 50653))
  | 4, _ => exact (va_eqtl (gw_of hw nw_15)).trans (congrArg (fun z => some (Value.long z)) (by decide : (1874161 : Int64) = Int64.ofInt 1874161))
  | 5, _ => exact (va_eqtl (gw_of hw nw_16)).trans (congrArg (fun z => some (Value.long z)) (by decide : (69343957 : Int64) = Int64.ofInt 69343957))
  | 6, _ => exact (va_eqtl (gw_of hw nw_17)).trans (congrArg (fun z => some (Value.long z)) (by decide : (2565726409 : Int64) = Int64.ofInt 2565726409))
  | 7, _ => exact (va_eqtl (gw_of hw nw_18)).trans (congrArg (fun z => some (Value.long z)) (by decide : (94931877133 : Int64) = Int64.ofInt 94931877133))
  | 8, _ => exact (va_eqtl (gw_of hw nw_19)).trans (congrArg (fun z => some (Value.long z)) (by decide : (3512479453921 : Int64) = Int64.ofInt 3512479453921))
  | 9, _ => exact (va_eqtl (gw_of hw nw_20)).trans (congrArg (fun z => some (Value.long z)) (by decide : (129961739795077 : Int64) = Int64.ofInt 129961739795077))
  | 10, _ => exact (va_eqtl (gw_of hw nw_21)).trans (congrArg (fun z => some (Value.long z)) (by decide : (4808584372417849 : Int64) = Int64.ofInt 4808584372417849))
  | 11, _ => exact (va_eqtl (gw_of hw nw_22)).trans (congrArg (fun z => some (Value.long z)) (by decide : (177917621779460413 : Int64) = Int64.ofInt 177917621779460413))
  | 12, _ => exact (va_eqtl (gw_of hw nw_23)).trans (congrArg (fun z => some (Value.long z)) (by decide : (6582952005840035281 : Int64) = Int64.ofInt 6582952005840035281))
  | n + 13, h => exact absurd h (by omega)
theorem nw_5 : (Jvm.Cond.arrayOf (Jvm.Term.static "java/util/ArrayList" "DEFAULTCAPACITY_EMPTY_ELEMENTDATA" "[Ljava/lang/Object;") (Jvm.ClassFile.FieldType.object "java/lang/Object")) ∈ flatA gvn [] := List.mem_of_getElem? (i := 5) (by decide +kernel)
theorem nw_7 : (Jvm.Cond.eq (Jvm.Term.length (Jvm.Term.static "java/util/ArrayList" "DEFAULTCAPACITY_EMPTY_ELEMENTDATA" "[Ljava/lang/Object;")) (Jvm.Term.int 0)) ∈ flatA gvn [] := List.mem_of_getElem? (i := 7) (by decide +kernel)
theorem nw_6 : (Jvm.Cond.exactly (Jvm.Term.static "java/util/ArrayList" "DEFAULTCAPACITY_EMPTY_ELEMENTDATA" "[Ljava/lang/Object;") "[Ljava/lang/Object;") ∈ flatA gvn [] := List.mem_of_getElem? (i := 6) (by decide +kernel)
theorem gk_101 {A : Array Value} {s : State} {G : XG} (hG : gs G = s) (hw : gvn.before A s = true) (hd : ∀ k, k ≠ 104 → gd G k = xad A s (xtmf k)) (hS : u_Kn s "java/lang/String" xF14 2 (gC G 14) (gI G 14)) (hA : ∀ t : Nat, xaok t = true → s.vm.findClass ("[" ++ (xaft t).toString) = some (gA G t)) : gd G 101 < gB G ∧ xCRw G s.heap (gd G 101) 110 0 (xpl xH0 (-103)) := by
  refine ga_arr hG (tm := (Jvm.Term.static "java/util/ArrayList" "DEFAULTCAPACITY_EMPTY_ELEMENTDATA" "[Ljava/lang/Object;")) (nm := "[Ljava/lang/Object;") (t := 110) (N := 0) [] (by decide) (by decide) (fun _ => trivial) (by decide) (gw_of hw nw_5) (gw_of hw nw_7) (fun j hj => absurd hj (Nat.not_lt_zero _)) (by decide +kernel) (fun _ => ⟨gw_of hw nw_6, by have := hA 110 rfl; rw [← this]; rfl⟩) (hd 101 (by decide))
theorem nw_34 : (Jvm.Cond.eq (Jvm.Term.elem (Jvm.Term.static "BeaconIndexModel" "SMALL_WORDS" "[Ljava/lang/String;") (Jvm.Term.int 0)) (Jvm.Term.string "BeaconIndexModel" 487)) ∈ flatA gvn [] := List.mem_of_getElem? (i := 34) (by decide +kernel)
theorem nw_35 : (Jvm.Cond.eq (Jvm.Term.elem (Jvm.Term.static "BeaconIndexModel" "SMALL_WORDS" "[Ljava/lang/String;") (Jvm.Term.int 1)) (Jvm.Term.string "BeaconIndexModel" 489)) ∈ flatA gvn [] := List.mem_of_getElem? (i := 35) (by decide +kernel)
theorem nw_36 : (Jvm.Cond.eq (Jvm.Term.elem (Jvm.Term.static "BeaconIndexModel" "SMALL_WORDS" "[Ljava/lang/String;") (Jvm.Term.int 2)) (Jvm.Term.string "BeaconIndexModel" 491)) ∈ flatA gvn [] := List.mem_of_getElem? (i := 36) (by decide +kernel)
theorem nw_37 : (Jvm.Cond.eq (Jvm.Term.elem (Jvm.Term.static "BeaconIndexModel" "SMALL_WORDS" "[Ljava/lang/String;") (Jvm.Term.int 3)) (Jvm.Term.string "BeaconIndexModel" 493)) ∈ flatA gvn [] := List.mem_of_getElem? (i := 37) (by decide +kernel)
theorem nw_38 : (Jvm.Cond.eq (Jvm.Term.elem (Jvm.Term.static "BeaconIndexModel" "SMALL_WORDS" "[Ljava/lang/String;") (Jvm.Term.int 4)) (Jvm.Term.string "BeaconIndexModel" 495)) ∈ flatA gvn [] := List.mem_of_getElem? (i := 38) (by decide +kernel)
theorem nw_39 : (Jvm.Cond.eq (Jvm.Term.elem (Jvm.Term.static "BeaconIndexModel" "SMALL_WORDS" "[Ljava/lang/String;") (Jvm.Term.int 5)) (Jvm.Term.string "BeaconIndexModel" 497)) ∈ flatA gvn [] := List.mem_of_getElem? (i := 39) (by decide +kernel)
theorem nw_40 : (Jvm.Cond.eq (Jvm.Term.elem (Jvm.Term.static "BeaconIndexModel" "SMALL_WORDS" "[Ljava/lang/String;") (Jvm.Term.int 6)) (Jvm.Term.string "BeaconIndexModel" 499)) ∈ flatA gvn [] := List.mem_of_getElem? (i := 40) (by decide +kernel)
theorem nw_41 : (Jvm.Cond.eq (Jvm.Term.elem (Jvm.Term.static "BeaconIndexModel" "SMALL_WORDS" "[Ljava/lang/String;") (Jvm.Term.int 7)) (Jvm.Term.string "BeaconIndexModel" 501)) ∈ flatA gvn [] := List.mem_of_getElem? (i := 41) (by decide +kernel)
theorem nw_32 : (Jvm.Cond.arrayOf (Jvm.Term.static "BeaconIndexModel" "SMALL_WORDS" "[Ljava/lang/String;") (Jvm.ClassFile.FieldType.object "java/lang/String")) ∈ flatA gvn [] := List.mem_of_getElem? (i := 32) (by decide +kernel)
theorem nw_33 : (Jvm.Cond.eq (Jvm.Term.length (Jvm.Term.static "BeaconIndexModel" "SMALL_WORDS" "[Ljava/lang/String;")) (Jvm.Term.int 8)) ∈ flatA gvn [] := List.mem_of_getElem? (i := 33) (by decide +kernel)
theorem gk_102 {A : Array Value} {s : State} {G : XG} (hG : gs G = s) (hw : gvn.before A s = true) (hd : ∀ k, k ≠ 104 → gd G k = xad A s (xtmf k)) (hS : u_Kn s "java/lang/String" xF14 2 (gC G 14) (gI G 14)) (hA : ∀ t : Nat, xaok t = true → s.vm.findClass ("[" ++ (xaft t).toString) = some (gA G t)) : gd G 102 < gB G ∧ xCRw G s.heap (gd G 102) 112 8 (xpl xH0 (-104)) := by
  refine ga_arr hG (tm := (Jvm.Term.static "BeaconIndexModel" "SMALL_WORDS" "[Ljava/lang/String;")) (nm := "") (t := 112) (N := 8) [-66, -68, -70, -72, -74, -76, -78, -80] (by decide) (by decide) (fun _ => trivial) (by decide) (gw_of hw nw_32) (gw_of hw nw_33) ?_ (by decide +kernel) (fun z => absurd rfl z) (hd 102 (by decide))
  intro j hj
  match j, hj with
  | 0, _ => exact (gh_eq (k := 64) (gw_of hw nw_34) (gw_of hw nw_572) hd rfl).trans (congrArg (fun v => some v) (xadr_neg G (-66) 64 (by decide)).symm)
  | 1, _ => exact (gh_eq (k := 66) (gw_of hw nw_35) (gw_of hw nw_580) hd rfl).trans (congrArg (fun v => some v) (xadr_neg G (-68) 66 (by decide)).symm)
  | 2, _ => exact (gh_eq (k := 68) (gw_of hw nw_36) (gw_of hw nw_586) hd rfl).trans (congrArg (fun v => some v) (xadr_neg G (-70) 68 (by decide)).symm)
  | 3, _ => exact (gh_eq (k := 70) (gw_of hw nw_37) (gw_of hw nw_593) hd rfl).trans (congrArg (fun v => some v) (xadr_neg G (-72) 70 (by decide)).symm)
  | 4, _ => exact (gh_eq (k := 72) (gw_of hw nw_38) (gw_of hw nw_600) hd rfl).trans (congrArg (fun v => some v) (xadr_neg G (-74) 72 (by decide)).symm)
  | 5, _ => exact (gh_eq (k := 74) (gw_of hw nw_39) (gw_of hw nw_608) hd rfl).trans (congrArg (fun v => some v) (xadr_neg G (-76) 74 (by decide)).symm)
  | 6, _ => exact (gh_eq (k := 76) (gw_of hw nw_40) (gw_of hw nw_615) hd rfl).trans (congrArg (fun v => some v) (xadr_neg G (-78) 76 (by decide)).symm)
  | 7, _ => exact (gh_eq (k := 78) (gw_of hw nw_41) (gw_of hw nw_622) hd rfl).trans (congrArg (fun v => some v) (xadr_neg G (-80) 78 (by decide)).symm)
  | n + 8, h => exact absurd h (by omega)

end
