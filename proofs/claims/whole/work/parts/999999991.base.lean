/-! ===== base ===== -/
section
/-! the ground stands: xBase and the first heap -/
theorem ge_len {A : Array Value} {s : State} {G : XG} {t : Term} {k : Nat} {n : Int32} (hlen : (Cond.eq (.length t) (.int n)).before A s = true) (hd : ∀ k, k ≠ 104 → gd G k = xad A s (xtmf k)) (e : xtmf k = t) (hk : k ≠ 104) : t.eval A s none [] s = some (.ref (gd G k)) := by
  obtain ⟨a, cell, ht, -, -⟩ := Term.length_spec (va_eqt hlen)
  rw [hd k hk, e, xad_eq ht]
  exact ht
theorem ge_ex {A : Array Value} {s : State} {G : XG} {t : Term} {k : Nat} {nm : String} (hex : (Cond.exactly t nm).before A s = true) (hd : ∀ k, k ≠ 104 → gd G k = xad A s (xtmf k)) (e : xtmf k = t) (hk : k ≠ 104) : t.eval A s none [] s = some (.ref (gd G k)) := by
  obtain ⟨a, -, -, -, ht, -⟩ := Cond.exactly_spec hex
  rw [hd k hk, e, xad_eq ht]
  exact ht
theorem g_ap {A : Array Value} {s : State} {ty : FieldType} (h : (Cond.arrayClass ty).before A s = true) : ∃ cA : ClassId, ArrOfT s cA ty ∧ s.vm.findClass ("[" ++ ty.toString) = some cA := by
  obtain ⟨c, k, comp, h1, h2, h3⟩ := Cond.arrayClass_spec h
  exact ⟨c, fun n z => ⟨fun k h => (by cases h), k, h2, comp, h3⟩, h1⟩
theorem g_ao {A : Array Value} {s : State} {C : String} (h : (Cond.arrayOver (.object C)).before A s = true) : ∃ cA : ClassId, ArrOfT s cA (.object C) ∧ va_RA s cA (.object C) ∧ s.vm.findClass ("[" ++ (FieldType.object C).toString) = some cA := by
  obtain ⟨comp, c, k, h1, h2, h3, h4, h5⟩ := Cond.arrayOver_spec h
  exact ⟨c, fun n z => ⟨fun k h => (by cases h), k, h3, comp, h4⟩, ⟨k, comp, h3, h4, h1, h5⟩, h5⟩
theorem g_aa {A : Array Value} {s : State} {t : FieldType} (h : (Cond.arrayOver (.array t)).before A s = true) : ∃ cA : ClassId, ArrOfT s cA (.array t) ∧ va_RA s cA (.array t) ∧ s.vm.findClass ("[" ++ (FieldType.array t).toString) = some cA := by
  obtain ⟨comp, c, k, h1, h2, h3, h4, h5⟩ := arrayOverA_spec h
  exact ⟨c, fun n z => ⟨fun k h => (by cases h), k, h3, comp, h4⟩, h5, h5⟩
theorem w_2547 : Cond.arrayOver (.object "java/lang/String") ∈ lw_tbl := List.mem_append_right _ (List.mem_of_getElem? (i := 2547) (by decide +kernel))
theorem w_877 : Cond.arrayClass .byte ∈ lw_tbl := List.mem_append_right _ (List.mem_of_getElem? (i := 877) (by decide +kernel))
theorem g_arr {A : Array Value} {s : State} (hts : ∀ w ∈ lw_tbl, w.before A s = true) (t : Nat) : ∃ cA : ClassId, xaok t = true → ArrOfT s cA (xaft t) ∧ va_RA s cA (xaft t) ∧ s.vm.findClass ("[" ++ (xaft t).toString) = some cA := by
  by_cases ht : xaok t = true
  · have ht2 := ht
    simp only [xaok, List.contains_eq_mem, List.mem_cons, List.not_mem_nil, or_false, decide_eq_true_eq] at ht2
    rcases ht2 with rfl | rfl | rfl | rfl | rfl | rfl | rfl | rfl
    · obtain ⟨c, a, b⟩ := g_ap (hts _ w_79)
      exact ⟨c, fun _ => ⟨a, b, b⟩⟩
    · obtain ⟨c, a, b⟩ := g_ap (hts _ w_80)
      exact ⟨c, fun _ => ⟨a, b, b⟩⟩
    · obtain ⟨c, a, b⟩ := g_ap (hts _ w_427)
      exact ⟨c, fun _ => ⟨a, b, b⟩⟩
    · obtain ⟨c, a, b⟩ := g_ap (hts _ w_877)
      exact ⟨c, fun _ => ⟨a, b, b⟩⟩
    · obtain ⟨c, a, b⟩ := g_ap (hts _ w_2496)
      exact ⟨c, fun _ => ⟨a, b, b⟩⟩
    · obtain ⟨c, a, b, d⟩ := g_ao (hts _ w_539)
      exact ⟨c, fun _ => ⟨a, b, d⟩⟩
    · obtain ⟨c, a, b, d⟩ := g_aa (hts _ w_178)
      exact ⟨c, fun _ => ⟨a, b, d⟩⟩
    · obtain ⟨c, a, b, d⟩ := g_ao (hts _ w_2547)
      exact ⟨c, fun _ => ⟨a, b, d⟩⟩
  · exact ⟨0, fun h => absurd h ht⟩
theorem w_41 : Cond.instantiable "BeaconIndex" 7 ∈ lw_tbl := List.mem_append_right _ (List.mem_of_getElem? (i := 41) (by decide +kernel))
theorem w_355 : Cond.instantiable "BeaconIndex$Findings" 6 ∈ lw_tbl := List.mem_append_right _ (List.mem_of_getElem? (i := 355) (by decide +kernel))
theorem w_361 : Cond.instantiable "BeaconIndex$Fits" 4 ∈ lw_tbl := List.mem_append_right _ (List.mem_of_getElem? (i := 361) (by decide +kernel))
theorem w_367 : Cond.instantiable "BeaconIndex$Match" 6 ∈ lw_tbl := List.mem_append_right _ (List.mem_of_getElem? (i := 367) (by decide +kernel))
theorem w_211 : Cond.instantiable "BeaconIndex$Part" 13 ∈ lw_tbl := List.mem_append_right _ (List.mem_of_getElem? (i := 211) (by decide +kernel))
theorem w_279 : Cond.instantiable "BeaconIndex$Question" 5 ∈ lw_tbl := List.mem_append_right _ (List.mem_of_getElem? (i := 279) (by decide +kernel))
theorem w_203 : Cond.instantiable "BeaconIndex$QuestionReader" 15 ∈ lw_tbl := List.mem_append_right _ (List.mem_of_getElem? (i := 203) (by decide +kernel))
theorem w_82 : Cond.instantiable "BeaconIndex$Store" 6 ∈ lw_tbl := List.mem_append_right _ (List.mem_of_getElem? (i := 82) (by decide +kernel))
theorem w_49 : Cond.instantiable "BeaconIndex$Tape" 7 ∈ lw_tbl := List.mem_append_right _ (List.mem_of_getElem? (i := 49) (by decide +kernel))
theorem w_114 : Cond.instantiable "BeaconIndex$Text" 6 ∈ lw_tbl := List.mem_append_right _ (List.mem_of_getElem? (i := 114) (by decide +kernel))
theorem w_172 : Cond.instantiable "BeaconIndex$Vocabulary" 7 ∈ lw_tbl := List.mem_append_right _ (List.mem_of_getElem? (i := 172) (by decide +kernel))
theorem w_1525 : Cond.instantiable "BeaconIndexModel" 38 ∈ lw_tbl := List.mem_append_right _ (List.mem_of_getElem? (i := 1525) (by decide +kernel))
theorem w_1531 : Cond.instantiable "BeaconIndexModel$Question" 13 ∈ lw_tbl := List.mem_append_right _ (List.mem_of_getElem? (i := 1531) (by decide +kernel))
theorem w_88 : Cond.instantiable "java/util/ArrayList" 3 ∈ lw_tbl := List.mem_append_right _ (List.mem_of_getElem? (i := 88) (by decide +kernel))
theorem w_2051 : Cond.instantiable "java/lang/String" 4 ∈ lw_tbl := List.mem_append_right _ (List.mem_of_getElem? (i := 2051) (by decide +kernel))
theorem g_cls {A : Array Value} {s : State} (hts : ∀ w ∈ lw_tbl, w.before A s = true) : ∀ q ∈ xCL, ∃ (cC : ClassId) (iS : Nat → Nat), u_Kn s q.1 q.2.1 q.2.2 cC iS := (List.forall_mem_cons.mpr ⟨u_known hts xi0 (hts _ w_41), (List.forall_mem_cons.mpr ⟨u_known hts xi1 (hts _ w_355), (List.forall_mem_cons.mpr ⟨u_known hts xi2 (hts _ w_361), (List.forall_mem_cons.mpr ⟨u_known hts xi3 (hts _ w_367), (List.forall_mem_cons.mpr ⟨u_known hts xi4 (hts _ w_211), (List.forall_mem_cons.mpr ⟨u_known hts xi5 (hts _ w_279), (List.forall_mem_cons.mpr ⟨u_known hts xi6 (hts _ w_203), (List.forall_mem_cons.mpr ⟨u_known hts xi7 (hts _ w_82), (List.forall_mem_cons.mpr ⟨u_known hts xi8 (hts _ w_49), (List.forall_mem_cons.mpr ⟨u_known hts xi9 (hts _ w_114), (List.forall_mem_cons.mpr ⟨u_known hts xi10 (hts _ w_172), (List.forall_mem_cons.mpr ⟨u_known hts xi11 (hts _ w_1525), (List.forall_mem_cons.mpr ⟨u_known hts xi12 (hts _ w_1531), (List.forall_mem_cons.mpr ⟨u_known hts xi13 (hts _ w_88), (List.forall_mem_cons.mpr ⟨u_known hts xi14 (hts _ w_2051), (fun _ h => absurd h List.not_mem_nil)⟩)⟩)⟩)⟩)⟩)⟩)⟩)⟩)⟩)⟩)⟩)⟩)⟩)⟩)⟩)
theorem nv_10 : (Jvm.Cond.eq (Jvm.Term.length (Jvm.Term.static "BeaconIndex$Words" "POWERS" "[J")) (Jvm.Term.int 13)) ∈ flatA gvn [] := List.mem_of_getElem? (i := 10) (by decide +kernel)
theorem w_656 : Cond.laysStatic "BeaconIndex$Words" "POWERS" "[J" ∈ lw_tbl := List.mem_append_right _ (List.mem_of_getElem? (i := 656) (by decide +kernel))
theorem nv_33 : (Jvm.Cond.eq (Jvm.Term.length (Jvm.Term.static "BeaconIndexModel" "SMALL_WORDS" "[Ljava/lang/String;")) (Jvm.Term.int 8)) ∈ flatA gvn [] := List.mem_of_getElem? (i := 33) (by decide +kernel)
theorem w_1770 : Cond.laysStatic "BeaconIndexModel" "SMALL_WORDS" "[Ljava/lang/String;" ∈ lw_tbl := List.mem_append_right _ (List.mem_of_getElem? (i := 1770) (by decide +kernel))
theorem nv_24 : (Jvm.Cond.eq (Jvm.Term.static "java/lang/String" "COMPACT_STRINGS" "Z") (Jvm.Term.int 1)) ∈ flatA gvn [] := List.mem_of_getElem? (i := 24) (by decide +kernel)
theorem w_820 : Cond.laysStatic "java/lang/String" "COMPACT_STRINGS" "Z" ∈ lw_tbl := List.mem_append_right _ (List.mem_of_getElem? (i := 820) (by decide +kernel))
theorem nv_7 : (Jvm.Cond.eq (Jvm.Term.length (Jvm.Term.static "java/util/ArrayList" "DEFAULTCAPACITY_EMPTY_ELEMENTDATA" "[Ljava/lang/Object;")) (Jvm.Term.int 0)) ∈ flatA gvn [] := List.mem_of_getElem? (i := 7) (by decide +kernel)
theorem w_100 : Cond.laysStatic "java/util/ArrayList" "DEFAULTCAPACITY_EMPTY_ELEMENTDATA" "[Ljava/lang/Object;" ∈ lw_tbl := List.mem_append_right _ (List.mem_of_getElem? (i := 100) (by decide +kernel))
theorem g_st {A : Array Value} {s : State} {G : XG} (hG : gs G = s) (hts : ∀ w ∈ lw_tbl, w.before A s = true) (hw : gvn.before A s = true) (hd : ∀ k, k ≠ 104 → gd G k = xad A s (xtmf k)) : ∀ q ∈ xST, va_Z q.1 q.2.1 q.2.2.1 (xcv G q.2.2.2) (fun a => gB G ≤ a) (gs G) (gs G).heap := by
  subst hG
  have hn : ∀ a : Nat, a < (gs G).heap.size → ¬ (fun a => gB G ≤ a) a := fun a ha z => absurd ha (Nat.not_lt.mpr z)
  exact (List.forall_mem_cons.mpr ⟨va_Zof (hts _ w_656) (hts _ w_24) ((ge_len (k := 100) (gw_of hw nv_10) hd rfl (by decide)).trans (congrArg some (xadr_neg G (-102) 100 (by decide)).symm)) hn, (List.forall_mem_cons.mpr ⟨va_Zof (hts _ w_1770) (hts _ w_15) ((ge_len (k := 102) (gw_of hw nv_33) hd rfl (by decide)).trans (congrArg some (xadr_neg G (-104) 102 (by decide)).symm)) hn, (List.forall_mem_cons.mpr ⟨va_Zof (hts _ w_820) (hts _ w_26) (va_eqi (gw_of hw nv_24)) hn, (List.forall_mem_cons.mpr ⟨va_Zof (hts _ w_100) (hts _ w_6) ((ge_len (k := 101) (gw_of hw nv_7) hd rfl (by decide)).trans (congrArg some (xadr_neg G (-103) 101 (by decide)).symm)) hn, (fun _ h => absurd h List.not_mem_nil)⟩)⟩)⟩)⟩)
theorem w_806 : Cond.stringRef "BeaconIndex$Tape" 105 "ies" ∈ lw_tbl := List.mem_append_right _ (List.mem_of_getElem? (i := 806) (by decide +kernel))
theorem nv_305 : (Jvm.Cond.exactly (Jvm.Term.string "BeaconIndex$Tape" 105) "java/lang/String") ∈ flatA gvn [] := List.mem_of_getElem? (i := 305) (by decide +kernel)
theorem w_864 : Cond.stringRef "BeaconIndex$Tape" 111 "sses" ∈ lw_tbl := List.mem_append_right _ (List.mem_of_getElem? (i := 864) (by decide +kernel))
theorem nv_312 : (Jvm.Cond.exactly (Jvm.Term.string "BeaconIndex$Tape" 111) "java/lang/String") ∈ flatA gvn [] := List.mem_of_getElem? (i := 312) (by decide +kernel)
theorem w_865 : Cond.stringRef "BeaconIndex$Tape" 113 "s" ∈ lw_tbl := List.mem_append_right _ (List.mem_of_getElem? (i := 865) (by decide +kernel))
theorem nv_320 : (Jvm.Cond.exactly (Jvm.Term.string "BeaconIndex$Tape" 113) "java/lang/String") ∈ flatA gvn [] := List.mem_of_getElem? (i := 320) (by decide +kernel)
theorem w_866 : Cond.stringRef "BeaconIndex$Tape" 115 "ss" ∈ lw_tbl := List.mem_append_right _ (List.mem_of_getElem? (i := 866) (by decide +kernel))
theorem nv_325 : (Jvm.Cond.exactly (Jvm.Term.string "BeaconIndex$Tape" 115) "java/lang/String") ∈ flatA gvn [] := List.mem_of_getElem? (i := 325) (by decide +kernel)
theorem w_867 : Cond.stringRef "BeaconIndex$Tape" 117 "us" ∈ lw_tbl := List.mem_append_right _ (List.mem_of_getElem? (i := 867) (by decide +kernel))
theorem nv_331 : (Jvm.Cond.exactly (Jvm.Term.string "BeaconIndex$Tape" 117) "java/lang/String") ∈ flatA gvn [] := List.mem_of_getElem? (i := 331) (by decide +kernel)
theorem w_868 : Cond.stringRef "BeaconIndex$Tape" 119 "ing" ∈ lw_tbl := List.mem_append_right _ (List.mem_of_getElem? (i := 868) (by decide +kernel))
theorem nv_337 : (Jvm.Cond.exactly (Jvm.Term.string "BeaconIndex$Tape" 119) "java/lang/String") ∈ flatA gvn [] := List.mem_of_getElem? (i := 337) (by decide +kernel)
theorem w_869 : Cond.stringRef "BeaconIndex$Tape" 121 "ed" ∈ lw_tbl := List.mem_append_right _ (List.mem_of_getElem? (i := 869) (by decide +kernel))
theorem nv_344 : (Jvm.Cond.exactly (Jvm.Term.string "BeaconIndex$Tape" 121) "java/lang/String") ∈ flatA gvn [] := List.mem_of_getElem? (i := 344) (by decide +kernel)
theorem w_977 : Cond.stringRef "BeaconIndex$Tape" 82 "the" ∈ lw_tbl := List.mem_append_right _ (List.mem_of_getElem? (i := 977) (by decide +kernel))
theorem nv_350 : (Jvm.Cond.exactly (Jvm.Term.string "BeaconIndex$Tape" 82) "java/lang/String") ∈ flatA gvn [] := List.mem_of_getElem? (i := 350) (by decide +kernel)
theorem w_982 : Cond.stringRef "BeaconIndex$Tape" 87 "a" ∈ lw_tbl := List.mem_append_right _ (List.mem_of_getElem? (i := 982) (by decide +kernel))
theorem nv_357 : (Jvm.Cond.exactly (Jvm.Term.string "BeaconIndex$Tape" 87) "java/lang/String") ∈ flatA gvn [] := List.mem_of_getElem? (i := 357) (by decide +kernel)
theorem w_983 : Cond.stringRef "BeaconIndex$Tape" 89 "an" ∈ lw_tbl := List.mem_append_right _ (List.mem_of_getElem? (i := 983) (by decide +kernel))
theorem nv_362 : (Jvm.Cond.exactly (Jvm.Term.string "BeaconIndex$Tape" 89) "java/lang/String") ∈ flatA gvn [] := List.mem_of_getElem? (i := 362) (by decide +kernel)
theorem w_984 : Cond.stringRef "BeaconIndex$Tape" 91 "of" ∈ lw_tbl := List.mem_append_right _ (List.mem_of_getElem? (i := 984) (by decide +kernel))
theorem nv_368 : (Jvm.Cond.exactly (Jvm.Term.string "BeaconIndex$Tape" 91) "java/lang/String") ∈ flatA gvn [] := List.mem_of_getElem? (i := 368) (by decide +kernel)
theorem w_985 : Cond.stringRef "BeaconIndex$Tape" 93 "and" ∈ lw_tbl := List.mem_append_right _ (List.mem_of_getElem? (i := 985) (by decide +kernel))
theorem nv_374 : (Jvm.Cond.exactly (Jvm.Term.string "BeaconIndex$Tape" 93) "java/lang/String") ∈ flatA gvn [] := List.mem_of_getElem? (i := 374) (by decide +kernel)
theorem w_986 : Cond.stringRef "BeaconIndex$Tape" 95 "or" ∈ lw_tbl := List.mem_append_right _ (List.mem_of_getElem? (i := 986) (by decide +kernel))
theorem nv_381 : (Jvm.Cond.exactly (Jvm.Term.string "BeaconIndex$Tape" 95) "java/lang/String") ∈ flatA gvn [] := List.mem_of_getElem? (i := 381) (by decide +kernel)
theorem w_987 : Cond.stringRef "BeaconIndex$Tape" 97 "to" ∈ lw_tbl := List.mem_append_right _ (List.mem_of_getElem? (i := 987) (by decide +kernel))
theorem nv_387 : (Jvm.Cond.exactly (Jvm.Term.string "BeaconIndex$Tape" 97) "java/lang/String") ∈ flatA gvn [] := List.mem_of_getElem? (i := 387) (by decide +kernel)
theorem w_988 : Cond.stringRef "BeaconIndex$Tape" 99 "in" ∈ lw_tbl := List.mem_append_right _ (List.mem_of_getElem? (i := 988) (by decide +kernel))
theorem nv_393 : (Jvm.Cond.exactly (Jvm.Term.string "BeaconIndex$Tape" 99) "java/lang/String") ∈ flatA gvn [] := List.mem_of_getElem? (i := 393) (by decide +kernel)
theorem w_1028 : Cond.stringRef "BeaconIndex$QuestionReader" 190 "title" ∈ lw_tbl := List.mem_append_right _ (List.mem_of_getElem? (i := 1028) (by decide +kernel))
theorem nv_399 : (Jvm.Cond.exactly (Jvm.Term.string "BeaconIndex$QuestionReader" 190) "java/lang/String") ∈ flatA gvn [] := List.mem_of_getElem? (i := 399) (by decide +kernel)
theorem w_1030 : Cond.stringRef "BeaconIndex$QuestionReader" 196 "body" ∈ lw_tbl := List.mem_append_right _ (List.mem_of_getElem? (i := 1030) (by decide +kernel))
theorem nv_408 : (Jvm.Cond.exactly (Jvm.Term.string "BeaconIndex$QuestionReader" 196) "java/lang/String") ∈ flatA gvn [] := List.mem_of_getElem? (i := 408) (by decide +kernel)
theorem w_1787 : Cond.stringRef "BeaconIndexModel" 155 "ies" ∈ lw_tbl := List.mem_append_right _ (List.mem_of_getElem? (i := 1787) (by decide +kernel))
theorem nv_416 : (Jvm.Cond.exactly (Jvm.Term.string "BeaconIndexModel" 155) "java/lang/String") ∈ flatA gvn [] := List.mem_of_getElem? (i := 416) (by decide +kernel)
theorem w_1800 : Cond.stringRef "BeaconIndexModel" 164 "sses" ∈ lw_tbl := List.mem_append_right _ (List.mem_of_getElem? (i := 1800) (by decide +kernel))
theorem nv_424 : (Jvm.Cond.exactly (Jvm.Term.string "BeaconIndexModel" 164) "java/lang/String") ∈ flatA gvn [] := List.mem_of_getElem? (i := 424) (by decide +kernel)
theorem w_1801 : Cond.stringRef "BeaconIndexModel" 166 "s" ∈ lw_tbl := List.mem_append_right _ (List.mem_of_getElem? (i := 1801) (by decide +kernel))
theorem nv_433 : (Jvm.Cond.exactly (Jvm.Term.string "BeaconIndexModel" 166) "java/lang/String") ∈ flatA gvn [] := List.mem_of_getElem? (i := 433) (by decide +kernel)
theorem w_1802 : Cond.stringRef "BeaconIndexModel" 168 "ss" ∈ lw_tbl := List.mem_append_right _ (List.mem_of_getElem? (i := 1802) (by decide +kernel))
theorem nv_439 : (Jvm.Cond.exactly (Jvm.Term.string "BeaconIndexModel" 168) "java/lang/String") ∈ flatA gvn [] := List.mem_of_getElem? (i := 439) (by decide +kernel)
theorem w_1803 : Cond.stringRef "BeaconIndexModel" 170 "us" ∈ lw_tbl := List.mem_append_right _ (List.mem_of_getElem? (i := 1803) (by decide +kernel))
theorem nv_446 : (Jvm.Cond.exactly (Jvm.Term.string "BeaconIndexModel" 170) "java/lang/String") ∈ flatA gvn [] := List.mem_of_getElem? (i := 446) (by decide +kernel)
theorem w_1804 : Cond.stringRef "BeaconIndexModel" 172 "ing" ∈ lw_tbl := List.mem_append_right _ (List.mem_of_getElem? (i := 1804) (by decide +kernel))
theorem nv_453 : (Jvm.Cond.exactly (Jvm.Term.string "BeaconIndexModel" 172) "java/lang/String") ∈ flatA gvn [] := List.mem_of_getElem? (i := 453) (by decide +kernel)
theorem w_1805 : Cond.stringRef "BeaconIndexModel" 174 "ed" ∈ lw_tbl := List.mem_append_right _ (List.mem_of_getElem? (i := 1805) (by decide +kernel))
theorem nv_461 : (Jvm.Cond.exactly (Jvm.Term.string "BeaconIndexModel" 174) "java/lang/String") ∈ flatA gvn [] := List.mem_of_getElem? (i := 461) (by decide +kernel)
theorem w_1934 : Cond.stringRef "java/util/Arrays" 48 "fromIndex(" ∈ lw_tbl := List.mem_append_right _ (List.mem_of_getElem? (i := 1934) (by decide +kernel))
theorem nv_468 : (Jvm.Cond.exactly (Jvm.Term.string "java/util/Arrays" 48) "java/lang/String") ∈ flatA gvn [] := List.mem_of_getElem? (i := 468) (by decide +kernel)
theorem w_2044 : Cond.stringRef "java/util/Arrays" 57 ") > toIndex(" ∈ lw_tbl := List.mem_append_right _ (List.mem_of_getElem? (i := 2044) (by decide +kernel))
theorem nv_482 : (Jvm.Cond.exactly (Jvm.Term.string "java/util/Arrays" 57) "java/lang/String") ∈ flatA gvn [] := List.mem_of_getElem? (i := 482) (by decide +kernel)
theorem w_2045 : Cond.stringRef "java/util/Arrays" 59 ")" ∈ lw_tbl := List.mem_append_right _ (List.mem_of_getElem? (i := 2045) (by decide +kernel))
theorem nv_498 : (Jvm.Cond.exactly (Jvm.Term.string "java/util/Arrays" 59) "java/lang/String") ∈ flatA gvn [] := List.mem_of_getElem? (i := 498) (by decide +kernel)
theorem w_2082 : Cond.stringRef "java/util/Arrays" 337 " > " ∈ lw_tbl := List.mem_append_right _ (List.mem_of_getElem? (i := 2082) (by decide +kernel))
theorem nv_503 : (Jvm.Cond.exactly (Jvm.Term.string "java/util/Arrays" 337) "java/lang/String") ∈ flatA gvn [] := List.mem_of_getElem? (i := 503) (by decide +kernel)
theorem w_2132 : Cond.stringRef "java/lang/ArrayIndexOutOfBoundsException" 13 "Array index out of range: " ∈ lw_tbl := List.mem_append_right _ (List.mem_of_getElem? (i := 2132) (by decide +kernel))
theorem nv_510 : (Jvm.Cond.exactly (Jvm.Term.string "java/lang/ArrayIndexOutOfBoundsException" 13) "java/lang/String") ∈ flatA gvn [] := List.mem_of_getElem? (i := 510) (by decide +kernel)
theorem w_2267 : Cond.stringRef "BeaconIndexModel" 247 "+-\"*~^:()" ∈ lw_tbl := List.mem_append_right _ (List.mem_of_getElem? (i := 2267) (by decide +kernel))
theorem nv_540 : (Jvm.Cond.exactly (Jvm.Term.string "BeaconIndexModel" 247) "java/lang/String") ∈ flatA gvn [] := List.mem_of_getElem? (i := 540) (by decide +kernel)
theorem w_2326 : Cond.stringRef "BeaconIndexModel" 287 "title" ∈ lw_tbl := List.mem_append_right _ (List.mem_of_getElem? (i := 2326) (by decide +kernel))
theorem nv_553 : (Jvm.Cond.exactly (Jvm.Term.string "BeaconIndexModel" 287) "java/lang/String") ∈ flatA gvn [] := List.mem_of_getElem? (i := 553) (by decide +kernel)
theorem w_2327 : Cond.stringRef "BeaconIndexModel" 289 "body" ∈ lw_tbl := List.mem_append_right _ (List.mem_of_getElem? (i := 2327) (by decide +kernel))
theorem nv_563 : (Jvm.Cond.exactly (Jvm.Term.string "BeaconIndexModel" 289) "java/lang/String") ∈ flatA gvn [] := List.mem_of_getElem? (i := 563) (by decide +kernel)
theorem w_2539 : Cond.stringRef "BeaconIndexModel" 487 "the" ∈ lw_tbl := List.mem_append_right _ (List.mem_of_getElem? (i := 2539) (by decide +kernel))
theorem nv_572 : (Jvm.Cond.exactly (Jvm.Term.string "BeaconIndexModel" 487) "java/lang/String") ∈ flatA gvn [] := List.mem_of_getElem? (i := 572) (by decide +kernel)
theorem w_2540 : Cond.stringRef "BeaconIndexModel" 489 "a" ∈ lw_tbl := List.mem_append_right _ (List.mem_of_getElem? (i := 2540) (by decide +kernel))
theorem nv_580 : (Jvm.Cond.exactly (Jvm.Term.string "BeaconIndexModel" 489) "java/lang/String") ∈ flatA gvn [] := List.mem_of_getElem? (i := 580) (by decide +kernel)
theorem w_2541 : Cond.stringRef "BeaconIndexModel" 491 "an" ∈ lw_tbl := List.mem_append_right _ (List.mem_of_getElem? (i := 2541) (by decide +kernel))
theorem nv_586 : (Jvm.Cond.exactly (Jvm.Term.string "BeaconIndexModel" 491) "java/lang/String") ∈ flatA gvn [] := List.mem_of_getElem? (i := 586) (by decide +kernel)
theorem w_2542 : Cond.stringRef "BeaconIndexModel" 493 "of" ∈ lw_tbl := List.mem_append_right _ (List.mem_of_getElem? (i := 2542) (by decide +kernel))
theorem nv_593 : (Jvm.Cond.exactly (Jvm.Term.string "BeaconIndexModel" 493) "java/lang/String") ∈ flatA gvn [] := List.mem_of_getElem? (i := 593) (by decide +kernel)
theorem w_2543 : Cond.stringRef "BeaconIndexModel" 495 "and" ∈ lw_tbl := List.mem_append_right _ (List.mem_of_getElem? (i := 2543) (by decide +kernel))
theorem nv_600 : (Jvm.Cond.exactly (Jvm.Term.string "BeaconIndexModel" 495) "java/lang/String") ∈ flatA gvn [] := List.mem_of_getElem? (i := 600) (by decide +kernel)
theorem w_2544 : Cond.stringRef "BeaconIndexModel" 497 "or" ∈ lw_tbl := List.mem_append_right _ (List.mem_of_getElem? (i := 2544) (by decide +kernel))
theorem nv_608 : (Jvm.Cond.exactly (Jvm.Term.string "BeaconIndexModel" 497) "java/lang/String") ∈ flatA gvn [] := List.mem_of_getElem? (i := 608) (by decide +kernel)
theorem w_2545 : Cond.stringRef "BeaconIndexModel" 499 "to" ∈ lw_tbl := List.mem_append_right _ (List.mem_of_getElem? (i := 2545) (by decide +kernel))
theorem nv_615 : (Jvm.Cond.exactly (Jvm.Term.string "BeaconIndexModel" 499) "java/lang/String") ∈ flatA gvn [] := List.mem_of_getElem? (i := 615) (by decide +kernel)
theorem w_2546 : Cond.stringRef "BeaconIndexModel" 501 "in" ∈ lw_tbl := List.mem_append_right _ (List.mem_of_getElem? (i := 2546) (by decide +kernel))
theorem nv_622 : (Jvm.Cond.exactly (Jvm.Term.string "BeaconIndexModel" 501) "java/lang/String") ∈ flatA gvn [] := List.mem_of_getElem? (i := 622) (by decide +kernel)
theorem g_sr {A : Array Value} {s : State} {G : XG} (hG : gs G = s) (hts : ∀ w ∈ lw_tbl, w.before A s = true) (hw : gvn.before A s = true) (hd : ∀ k, k ≠ 104 → gd G k = xad A s (xtmf k)) : ∀ q ∈ xSR, vk_R q.1 q.2.1 q.2.2.1 (gd G q.2.2.2) (gs G) := by
  subst hG
  exact (List.forall_mem_cons.mpr ⟨vk_R.of (hts _ w_806) (ge_ex (k := 0) (gw_of hw nv_305) hd rfl (by decide)), (List.forall_mem_cons.mpr ⟨vk_R.of (hts _ w_864) (ge_ex (k := 2) (gw_of hw nv_312) hd rfl (by decide)), (List.forall_mem_cons.mpr ⟨vk_R.of (hts _ w_865) (ge_ex (k := 4) (gw_of hw nv_320) hd rfl (by decide)), (List.forall_mem_cons.mpr ⟨vk_R.of (hts _ w_866) (ge_ex (k := 6) (gw_of hw nv_325) hd rfl (by decide)), (List.forall_mem_cons.mpr ⟨vk_R.of (hts _ w_867) (ge_ex (k := 8) (gw_of hw nv_331) hd rfl (by decide)), (List.forall_mem_cons.mpr ⟨vk_R.of (hts _ w_868) (ge_ex (k := 10) (gw_of hw nv_337) hd rfl (by decide)), (List.forall_mem_cons.mpr ⟨vk_R.of (hts _ w_869) (ge_ex (k := 12) (gw_of hw nv_344) hd rfl (by decide)), (List.forall_mem_cons.mpr ⟨vk_R.of (hts _ w_977) (ge_ex (k := 14) (gw_of hw nv_350) hd rfl (by decide)), (List.forall_mem_cons.mpr ⟨vk_R.of (hts _ w_982) (ge_ex (k := 16) (gw_of hw nv_357) hd rfl (by decide)), (List.forall_mem_cons.mpr ⟨vk_R.of (hts _ w_983) (ge_ex (k := 18) (gw_of hw nv_362) hd rfl (by decide)), (List.forall_mem_cons.mpr ⟨vk_R.of (hts _ w_984) (ge_ex (k := 20) (gw_of hw nv_368) hd rfl (by decide)), (List.forall_mem_cons.mpr ⟨vk_R.of (hts _ w_985) (ge_ex (k := 22) (gw_of hw nv_374) hd rfl (by decide)), (List.forall_mem_cons.mpr ⟨vk_R.of (hts _ w_986) (ge_ex (k := 24) (gw_of hw nv_381) hd rfl (by decide)), (List.forall_mem_cons.mpr ⟨vk_R.of (hts _ w_987) (ge_ex (k := 26) (gw_of hw nv_387) hd rfl (by decide)), (List.forall_mem_cons.mpr ⟨vk_R.of (hts _ w_988) (ge_ex (k := 28) (gw_of hw nv_393) hd rfl (by decide)), (List.forall_mem_cons.mpr ⟨vk_R.of (hts _ w_1028) (ge_ex (k := 30) (gw_of hw nv_399) hd rfl (by decide)), (List.forall_mem_cons.mpr ⟨vk_R.of (hts _ w_1030) (ge_ex (k := 32) (gw_of hw nv_408) hd rfl (by decide)), (List.forall_mem_cons.mpr ⟨vk_R.of (hts _ w_1787) (ge_ex (k := 34) (gw_of hw nv_416) hd rfl (by decide)), (List.forall_mem_cons.mpr ⟨vk_R.of (hts _ w_1800) (ge_ex (k := 36) (gw_of hw nv_424) hd rfl (by decide)), (List.forall_mem_cons.mpr ⟨vk_R.of (hts _ w_1801) (ge_ex (k := 38) (gw_of hw nv_433) hd rfl (by decide)), (List.forall_mem_cons.mpr ⟨vk_R.of (hts _ w_1802) (ge_ex (k := 40) (gw_of hw nv_439) hd rfl (by decide)), (List.forall_mem_cons.mpr ⟨vk_R.of (hts _ w_1803) (ge_ex (k := 42) (gw_of hw nv_446) hd rfl (by decide)), (List.forall_mem_cons.mpr ⟨vk_R.of (hts _ w_1804) (ge_ex (k := 44) (gw_of hw nv_453) hd rfl (by decide)), (List.forall_mem_cons.mpr ⟨vk_R.of (hts _ w_1805) (ge_ex (k := 46) (gw_of hw nv_461) hd rfl (by decide)), (List.forall_mem_cons.mpr ⟨vk_R.of (hts _ w_1934) (ge_ex (k := 48) (gw_of hw nv_468) hd rfl (by decide)), (List.forall_mem_cons.mpr ⟨vk_R.of (hts _ w_2044) (ge_ex (k := 50) (gw_of hw nv_482) hd rfl (by decide)), (List.forall_mem_cons.mpr ⟨vk_R.of (hts _ w_2045) (ge_ex (k := 52) (gw_of hw nv_498) hd rfl (by decide)), (List.forall_mem_cons.mpr ⟨vk_R.of (hts _ w_2082) (ge_ex (k := 54) (gw_of hw nv_503) hd rfl (by decide)), (List.forall_mem_cons.mpr ⟨vk_R.of (hts _ w_2132) (ge_ex (k := 56) (gw_of hw nv_510) hd rfl (by decide)), (List.forall_mem_cons.mpr ⟨vk_R.of (hts _ w_2267) (ge_ex (k := 58) (gw_of hw nv_540) hd rfl (by decide)), (List.forall_mem_cons.mpr ⟨vk_R.of (hts _ w_2326) (ge_ex (k := 60) (gw_of hw nv_553) hd rfl (by decide)), (List.forall_mem_cons.mpr ⟨vk_R.of (hts _ w_2327) (ge_ex (k := 62) (gw_of hw nv_563) hd rfl (by decide)), (List.forall_mem_cons.mpr ⟨vk_R.of (hts _ w_2539) (ge_ex (k := 64) (gw_of hw nv_572) hd rfl (by decide)), (List.forall_mem_cons.mpr ⟨vk_R.of (hts _ w_2540) (ge_ex (k := 66) (gw_of hw nv_580) hd rfl (by decide)), (List.forall_mem_cons.mpr ⟨vk_R.of (hts _ w_2541) (ge_ex (k := 68) (gw_of hw nv_586) hd rfl (by decide)), (List.forall_mem_cons.mpr ⟨vk_R.of (hts _ w_2542) (ge_ex (k := 70) (gw_of hw nv_593) hd rfl (by decide)), (List.forall_mem_cons.mpr ⟨vk_R.of (hts _ w_2543) (ge_ex (k := 72) (gw_of hw nv_600) hd rfl (by decide)), (List.forall_mem_cons.mpr ⟨vk_R.of (hts _ w_2544) (ge_ex (k := 74) (gw_of hw nv_608) hd rfl (by decide)), (List.forall_mem_cons.mpr ⟨vk_R.of (hts _ w_2545) (ge_ex (k := 76) (gw_of hw nv_615) hd rfl (by decide)), (List.forall_mem_cons.mpr ⟨vk_R.of (hts _ w_2546) (ge_ex (k := 78) (gw_of hw nv_622) hd rfl (by decide)), (fun _ h => absurd h List.not_mem_nil)⟩)⟩)⟩)⟩)⟩)⟩)⟩)⟩)⟩)⟩)⟩)⟩)⟩)⟩)⟩)⟩)⟩)⟩)⟩)⟩)⟩)⟩)⟩)⟩)⟩)⟩)⟩)⟩)⟩)⟩)⟩)⟩)⟩)⟩)⟩)⟩)⟩)⟩)⟩)⟩)
theorem nv_281 : (Jvm.Cond.not (Jvm.Cond.castable "java/lang/IllegalStateException" "java/lang/IllegalArgumentException")) ∈ flatA gvn [] := List.mem_of_getElem? (i := 281) (by decide +kernel)
theorem nv_282 : (Jvm.Cond.not (Jvm.Cond.castable "java/lang/IndexOutOfBoundsException" "java/lang/IllegalArgumentException")) ∈ flatA gvn [] := List.mem_of_getElem? (i := 282) (by decide +kernel)
theorem nv_262 : (Jvm.Cond.not (Jvm.Cond.castable "java/lang/IllegalArgumentException" "java/lang/IllegalStateException")) ∈ flatA gvn [] := List.mem_of_getElem? (i := 262) (by decide +kernel)
theorem nv_263 : (Jvm.Cond.not (Jvm.Cond.castable "java/lang/IndexOutOfBoundsException" "java/lang/IllegalStateException")) ∈ flatA gvn [] := List.mem_of_getElem? (i := 263) (by decide +kernel)
theorem g_nc {A : Array Value} {s : State} {G : XG} (hG : gs G = s) (hts : ∀ w ∈ lw_tbl, w.before A s = true) (hw : gvn.before A s = true) (hd : ∀ k, k ≠ 104 → gd G k = xad A s (xtmf k)) : ∀ q ∈ xNC, va_Nc q.1 q.2 (gs G) := by
  subst hG
  exact (List.forall_mem_cons.mpr ⟨va_Nc.of (gw_of hw nv_281), (List.forall_mem_cons.mpr ⟨va_Nc.of (gw_of hw nv_282), (List.forall_mem_cons.mpr ⟨va_Nc.of (gw_of hw nv_262), (List.forall_mem_cons.mpr ⟨va_Nc.of (gw_of hw nv_263), (fun _ h => absurd h List.not_mem_nil)⟩)⟩)⟩)⟩)
theorem w_836 : Cond.laysStatic "jdk/internal/util/Preconditions" "SIOOBE_FORMATTER" "Ljava/util/function/BiFunction;" ∈ lw_tbl := List.mem_append_right _ (List.mem_of_getElem? (i := 836) (by decide +kernel))
theorem nv_25 : (Jvm.Cond.isRef (Jvm.Term.static "jdk/internal/util/Preconditions" "SIOOBE_FORMATTER" "Ljava/util/function/BiFunction;")) ∈ flatA gvn [] := List.mem_of_getElem? (i := 25) (by decide +kernel)
theorem w_1128 : Cond.laysStatic "java/lang/Throwable" "UNASSIGNED_STACK" "[Ljava/lang/StackTraceElement;" ∈ lw_tbl := List.mem_append_right _ (List.mem_of_getElem? (i := 1128) (by decide +kernel))
theorem w_17 : Cond.initialized "java/lang/Throwable" ∈ lw_tbl := List.mem_append_right _ (List.mem_of_getElem? (i := 17) (by decide +kernel))
theorem nv_29 : (Jvm.Cond.isRef (Jvm.Term.static "java/lang/Throwable" "UNASSIGNED_STACK" "[Ljava/lang/StackTraceElement;")) ∈ flatA gvn [] := List.mem_of_getElem? (i := 29) (by decide +kernel)
theorem w_1130 : Cond.laysStatic "java/lang/Throwable" "SUPPRESSED_SENTINEL" "Ljava/util/List;" ∈ lw_tbl := List.mem_append_right _ (List.mem_of_getElem? (i := 1130) (by decide +kernel))
theorem nv_30 : (Jvm.Cond.isRef (Jvm.Term.static "java/lang/Throwable" "SUPPRESSED_SENTINEL" "Ljava/util/List;")) ∈ flatA gvn [] := List.mem_of_getElem? (i := 30) (by decide +kernel)
theorem nv_304 : (Jvm.Cond.isRef (Jvm.Term.mirror "[Ljava/lang/Object;")) ∈ flatA gvn [] := List.mem_of_getElem? (i := 304) (by decide +kernel)
theorem g_sio {A : Array Value} {s : State} {G : XG} (hG : gs G = s) (hts : ∀ w ∈ lw_tbl, w.before A s = true) (hw : gvn.before A s = true) (hd : ∀ k, k ≠ 104 → gd G k = xad A s (xtmf k)) : va_Z "jdk/internal/util/Preconditions" "SIOOBE_FORMATTER" "Ljava/util/function/BiFunction;" .null (fun a => gB G ≤ a) (gs G) (gs G).heap ∨ va_Z "jdk/internal/util/Preconditions" "SIOOBE_FORMATTER" "Ljava/util/function/BiFunction;" (.ref (gd G 105)) (fun a => gB G ≤ a) (gs G) (gs G).heap := by
  subst hG
  have hn : ∀ a : Nat, a < (gs G).heap.size → ¬ (fun a => gB G ≤ a) a := fun a ha z => absurd ha (Nat.not_lt.mpr z)
  obtain ⟨v, hv, hr⟩ := Cond.isRef_spec (gw_of hw nv_25)
  have hz := va_Zof (A := fun a => gB G ≤ a) (hts _ w_836) (hts _ w_23) hv hn
  cases v with
  | null => exact Or.inl hz
  | ref a =>
    right
    rw [hd 105 (by decide), show xtmf 105 = (Jvm.Term.static "jdk/internal/util/Preconditions" "SIOOBE_FORMATTER" "Ljava/util/function/BiFunction;") from rfl, xad_eq hv]
    exact hz
  | _ => cases hr
theorem g_base {l : Launch} (hl : l.stackTraces = false) {A : Array Value} {s : State} (hts : ∀ w ∈ lw_tbl, w.before A s = true) (hw : gvn.before A s = true) : ∃ G : XG, gl G = l ∧ gs G = s ∧ xBase G ∧ ∀ k, k ≠ 104 → gd G k = xad A s (xtmf k) := by
  obtain ⟨mi, hmi⟩ := va_Mi.of (gw_of hw nv_304)
  have hkn : ∀ i : Nat, ∃ (cC : ClassId) (iS : Nat → Nat), ∀ q, xCL[i]? = some q → u_Kn s q.1 q.2.1 q.2.2 cC iS := by
    intro i
    cases hi : xCL[i]? with
    | none => exact ⟨0, fun _ => 0, fun q hq => by cases hq⟩
    | some q =>
      obtain ⟨cC, iS, h⟩ := g_cls hts q (List.mem_of_getElem? hi)
      exact ⟨cC, iS, fun q2 hq => by cases hq; exact h⟩
  have har := g_arr hts
  let G : XG := (l, s, fun i => Classical.choose (hkn i), fun i => Classical.choose (Classical.choose_spec (hkn i)), fun t => Classical.choose (har t), fun k => if k = 104 then mi else xad A s (xtmf k))
  have hd : ∀ k, k ≠ 104 → gd G k = xad A s (xtmf k) := fun k hk => if_neg hk
  have hn : ∀ a : Nat, a < (gs G).heap.size → ¬ (fun a => gB G ≤ a) a := fun a ha z => absurd ha (Nat.not_lt.mpr z)
  exact ⟨G, rfl, rfl, ⟨hl, ⟨A, hts⟩, fun i q hq => Classical.choose_spec (Classical.choose_spec (hkn i)) q hq, fun t ht => Classical.choose_spec (har t) ht, g_st rfl hts hw hd, g_sr rfl hts hw hd, g_sio rfl hts hw hd, vx_Zqof (hts _ w_1128) (hts _ w_17) (gw_of hw nv_29) hn, vx_Zqof (hts _ w_1130) (hts _ w_17) (gw_of hw nv_30) hn, hmi, g_nc rfl hts hw hd⟩, hd⟩
theorem g_all {A : Array Value} {s : State} {G : XG} (hG : gs G = s) (hw : gvn.before A s = true) (hd : ∀ k, k ≠ 104 → gd G k = xad A s (xtmf k)) (hS : u_Kn s "java/lang/String" xF14 2 (gC G 14) (gI G 14)) (hA : ∀ t : Nat, xaok t = true → s.vm.findClass ("[" ++ (xaft t).toString) = some (gA G t)) : ∀ q ∈ xnT, gd G (-2 - q.1).toNat < gB G ∧ xCRw G s.heap (gd G (-2 - q.1).toNat) q.2.1 q.2.2 (xpl xH0 q.1) := (List.forall_mem_cons.mpr ⟨gk_102 hG hw hd hS hA, (List.forall_mem_cons.mpr ⟨gk_101 hG hw hd hS hA, (List.forall_mem_cons.mpr ⟨gk_100 hG hw hd hS hA, (List.forall_mem_cons.mpr ⟨gk_79 hG hw hd hS hA, (List.forall_mem_cons.mpr ⟨gk_78 hG hw hd hS hA, (List.forall_mem_cons.mpr ⟨gk_77 hG hw hd hS hA, (List.forall_mem_cons.mpr ⟨gk_76 hG hw hd hS hA, (List.forall_mem_cons.mpr ⟨gk_75 hG hw hd hS hA, (List.forall_mem_cons.mpr ⟨gk_74 hG hw hd hS hA, (List.forall_mem_cons.mpr ⟨gk_73 hG hw hd hS hA, (List.forall_mem_cons.mpr ⟨gk_72 hG hw hd hS hA, (List.forall_mem_cons.mpr ⟨gk_71 hG hw hd hS hA, (List.forall_mem_cons.mpr ⟨gk_70 hG hw hd hS hA, (List.forall_mem_cons.mpr ⟨gk_69 hG hw hd hS hA, (List.forall_mem_cons.mpr ⟨gk_68 hG hw hd hS hA, (List.forall_mem_cons.mpr ⟨gk_67 hG hw hd hS hA, (List.forall_mem_cons.mpr ⟨gk_66 hG hw hd hS hA, (List.forall_mem_cons.mpr ⟨gk_65 hG hw hd hS hA, (List.forall_mem_cons.mpr ⟨gk_64 hG hw hd hS hA, (List.forall_mem_cons.mpr ⟨gk_63 hG hw hd hS hA, (List.forall_mem_cons.mpr ⟨gk_62 hG hw hd hS hA, (List.forall_mem_cons.mpr ⟨gk_61 hG hw hd hS hA, (List.forall_mem_cons.mpr ⟨gk_60 hG hw hd hS hA, (List.forall_mem_cons.mpr ⟨gk_59 hG hw hd hS hA, (List.forall_mem_cons.mpr ⟨gk_58 hG hw hd hS hA, (List.forall_mem_cons.mpr ⟨gk_47 hG hw hd hS hA, (List.forall_mem_cons.mpr ⟨gk_46 hG hw hd hS hA, (List.forall_mem_cons.mpr ⟨gk_45 hG hw hd hS hA, (List.forall_mem_cons.mpr ⟨gk_44 hG hw hd hS hA, (List.forall_mem_cons.mpr ⟨gk_43 hG hw hd hS hA, (List.forall_mem_cons.mpr ⟨gk_42 hG hw hd hS hA, (List.forall_mem_cons.mpr ⟨gk_41 hG hw hd hS hA, (List.forall_mem_cons.mpr ⟨gk_40 hG hw hd hS hA, (List.forall_mem_cons.mpr ⟨gk_39 hG hw hd hS hA, (List.forall_mem_cons.mpr ⟨gk_38 hG hw hd hS hA, (List.forall_mem_cons.mpr ⟨gk_37 hG hw hd hS hA, (List.forall_mem_cons.mpr ⟨gk_36 hG hw hd hS hA, (List.forall_mem_cons.mpr ⟨gk_35 hG hw hd hS hA, (List.forall_mem_cons.mpr ⟨gk_34 hG hw hd hS hA, (List.forall_mem_cons.mpr ⟨gk_33 hG hw hd hS hA, (List.forall_mem_cons.mpr ⟨gk_32 hG hw hd hS hA, (List.forall_mem_cons.mpr ⟨gk_31 hG hw hd hS hA, (List.forall_mem_cons.mpr ⟨gk_30 hG hw hd hS hA, (List.forall_mem_cons.mpr ⟨gk_29 hG hw hd hS hA, (List.forall_mem_cons.mpr ⟨gk_28 hG hw hd hS hA, (List.forall_mem_cons.mpr ⟨gk_27 hG hw hd hS hA, (List.forall_mem_cons.mpr ⟨gk_26 hG hw hd hS hA, (List.forall_mem_cons.mpr ⟨gk_25 hG hw hd hS hA, (List.forall_mem_cons.mpr ⟨gk_24 hG hw hd hS hA, (List.forall_mem_cons.mpr ⟨gk_23 hG hw hd hS hA, (List.forall_mem_cons.mpr ⟨gk_22 hG hw hd hS hA, (List.forall_mem_cons.mpr ⟨gk_21 hG hw hd hS hA, (List.forall_mem_cons.mpr ⟨gk_20 hG hw hd hS hA, (List.forall_mem_cons.mpr ⟨gk_19 hG hw hd hS hA, (List.forall_mem_cons.mpr ⟨gk_18 hG hw hd hS hA, (List.forall_mem_cons.mpr ⟨gk_17 hG hw hd hS hA, (List.forall_mem_cons.mpr ⟨gk_16 hG hw hd hS hA, (List.forall_mem_cons.mpr ⟨gk_15 hG hw hd hS hA, (List.forall_mem_cons.mpr ⟨gk_14 hG hw hd hS hA, (List.forall_mem_cons.mpr ⟨gk_13 hG hw hd hS hA, (List.forall_mem_cons.mpr ⟨gk_12 hG hw hd hS hA, (List.forall_mem_cons.mpr ⟨gk_11 hG hw hd hS hA, (List.forall_mem_cons.mpr ⟨gk_10 hG hw hd hS hA, (List.forall_mem_cons.mpr ⟨gk_9 hG hw hd hS hA, (List.forall_mem_cons.mpr ⟨gk_8 hG hw hd hS hA, (List.forall_mem_cons.mpr ⟨gk_7 hG hw hd hS hA, (List.forall_mem_cons.mpr ⟨gk_6 hG hw hd hS hA, (List.forall_mem_cons.mpr ⟨gk_5 hG hw hd hS hA, (List.forall_mem_cons.mpr ⟨gk_4 hG hw hd hS hA, (List.forall_mem_cons.mpr ⟨gk_3 hG hw hd hS hA, (List.forall_mem_cons.mpr ⟨gk_2 hG hw hd hS hA, (List.forall_mem_cons.mpr ⟨gk_1 hG hw hd hS hA, (List.forall_mem_cons.mpr ⟨gk_0 hG hw hd hS hA, (fun _ h => absurd h List.not_mem_nil)⟩)⟩)⟩)⟩)⟩)⟩)⟩)⟩)⟩)⟩)⟩)⟩)⟩)⟩)⟩)⟩)⟩)⟩)⟩)⟩)⟩)⟩)⟩)⟩)⟩)⟩)⟩)⟩)⟩)⟩)⟩)⟩)⟩)⟩)⟩)⟩)⟩)⟩)⟩)⟩)⟩)⟩)⟩)⟩)⟩)⟩)⟩)⟩)⟩)⟩)⟩)⟩)⟩)⟩)⟩)⟩)⟩)⟩)⟩)⟩)⟩)⟩)⟩)⟩)⟩)⟩)⟩)⟩)⟩)⟩)⟩)⟩)⟩)
theorem xnT_neg : ∀ q ∈ xnT, q.1 < -1 := by decide +kernel
theorem g_heap {s : State} {G : XG} (hG : gs G = s) (H : ∀ q ∈ xnT, gd G (-2 - q.1).toNat < gB G ∧ xCRw G s.heap (gd G (-2 - q.1).toNat) q.2.1 q.2.2 (xpl xH0 q.1)) : xHR G xH0 s.heap := by
  subst hG
  have out : ∀ a : Int, -1 ≤ a → xtg xH0 a = 999 := by
    intro a ha
    show (xcT a).1 = 999
    unfold xcT
    cases hf : xnT.find? (fun q => q.1 == a) with
    | none => rfl
    | some q =>
      have h1 := xnT_neg q (List.mem_of_find?_eq_some hf)
      have h2 := List.find?_some hf
      simp at h2
      omega
  refine ⟨(Int.add_zero _).symm, Int.le_refl _, by decide, by show (xtsl (gs G).heap : Int) ≤ xtsl (gs G).heap + 0; omega, by decide, fun q hq => rfl, fun a ha => absurd (show (a : Int) < 0 from ha) (by omega), fun a ha => out a (by have : (0 : Int) ≤ a := ha; omega), out _ (by decide), fun k hk => ?_⟩
  have hk2 : (xcT (-2 - (k : Int))).1 < 200 := hk
  show gd G k < gB G ∧ xCRw G (gs G).heap (gd G k) (xcT (-2 - (k : Int))).1 (xcT (-2 - (k : Int))).2 (xpl xH0 (-2 - (k : Int)))
  cases hf : xnT.find? (fun q => q.1 == -2 - (k : Int)) with
  | none => unfold xcT at hk2; rw [hf] at hk2; exact absurd hk2 (by decide)
  | some q =>
    have h1 := H q (List.mem_of_find?_eq_some hf)
    have h2 : q.1 = -2 - (k : Int) := by have := List.find?_some hf; simpa using this
    have h3 : xcT (-2 - (k : Int)) = q.2 := by unfold xcT; rw [hf]
    rw [h3, ← h2]
    rw [show (-2 - q.1).toNat = k by omega] at h1
    exact h1

end
