/-! ===== lay ===== -/
section
/-! the first heap, and what the constructors lay on it -/
def xnT : List (Int × Nat × Int) := [((-104), 112, 8), ((-103), 110, 0), ((-102), 101, 13), ((-81), 103, 2), ((-80), 14, 2), ((-79), 103, 2), ((-78), 14, 2), ((-77), 103, 2), ((-76), 14, 2), ((-75), 103, 3), ((-74), 14, 2), ((-73), 103, 2), ((-72), 14, 2), ((-71), 103, 2), ((-70), 14, 2), ((-69), 103, 1), ((-68), 14, 2), ((-67), 103, 3), ((-66), 14, 2), ((-65), 103, 4), ((-64), 14, 2), ((-63), 103, 5), ((-62), 14, 2), ((-61), 103, 9), ((-60), 14, 2), ((-49), 103, 2), ((-48), 14, 2), ((-47), 103, 3), ((-46), 14, 2), ((-45), 103, 2), ((-44), 14, 2), ((-43), 103, 2), ((-42), 14, 2), ((-41), 103, 1), ((-40), 14, 2), ((-39), 103, 4), ((-38), 14, 2), ((-37), 103, 3), ((-36), 14, 2), ((-35), 103, 4), ((-34), 14, 2), ((-33), 103, 5), ((-32), 14, 2), ((-31), 103, 2), ((-30), 14, 2), ((-29), 103, 2), ((-28), 14, 2), ((-27), 103, 2), ((-26), 14, 2), ((-25), 103, 3), ((-24), 14, 2), ((-23), 103, 2), ((-22), 14, 2), ((-21), 103, 2), ((-20), 14, 2), ((-19), 103, 1), ((-18), 14, 2), ((-17), 103, 3), ((-16), 14, 2), ((-15), 103, 2), ((-14), 14, 2), ((-13), 103, 3), ((-12), 14, 2), ((-11), 103, 2), ((-10), 14, 2), ((-9), 103, 2), ((-8), 14, 2), ((-7), 103, 1), ((-6), 14, 2), ((-5), 103, 4), ((-4), 14, 2), ((-3), 103, 3), ((-2), 14, 2)]
def xnP : List (Int × Int × Int) := [((-104), 0, (-66)), ((-104), 1, (-68)), ((-104), 2, (-70)), ((-104), 3, (-72)), ((-104), 4, (-74)), ((-104), 5, (-76)), ((-104), 6, (-78)), ((-104), 7, (-80)), ((-102), 0, 1), ((-102), 1, 37), ((-102), 2, 1369), ((-102), 3, 50653), ((-102), 4, 1874161), ((-102), 5, 69343957), ((-102), 6, 2565726409), ((-102), 7, 94931877133), ((-102), 8, 3512479453921), ((-102), 9, 129961739795077), ((-102), 10, 4808584372417849), ((-102), 11, 177917621779460413), ((-102), 12, 6582952005840035281), ((-81), 0, 105), ((-81), 1, 110), ((-80), 0, (-81)), ((-80), 1, 0), ((-79), 0, 116), ((-79), 1, 111), ((-78), 0, (-79)), ((-78), 1, 0), ((-77), 0, 111), ((-77), 1, 114), ((-76), 0, (-77)), ((-76), 1, 0), ((-75), 0, 97), ((-75), 1, 110), ((-75), 2, 100), ((-74), 0, (-75)), ((-74), 1, 0), ((-73), 0, 111), ((-73), 1, 102), ((-72), 0, (-73)), ((-72), 1, 0), ((-71), 0, 97), ((-71), 1, 110), ((-70), 0, (-71)), ((-70), 1, 0), ((-69), 0, 97), ((-68), 0, (-69)), ((-68), 1, 0), ((-67), 0, 116), ((-67), 1, 104), ((-67), 2, 101), ((-66), 0, (-67)), ((-66), 1, 0), ((-65), 0, 98), ((-65), 1, 111), ((-65), 2, 100), ((-65), 3, 121), ((-64), 0, (-65)), ((-64), 1, 0), ((-63), 0, 116), ((-63), 1, 105), ((-63), 2, 116), ((-63), 3, 108), ((-63), 4, 101), ((-62), 0, (-63)), ((-62), 1, 0), ((-61), 0, 43), ((-61), 1, 45), ((-61), 2, 34), ((-61), 3, 42), ((-61), 4, 126), ((-61), 5, 94), ((-61), 6, 58), ((-61), 7, 40), ((-61), 8, 41), ((-60), 0, (-61)), ((-60), 1, 0), ((-49), 0, 101), ((-49), 1, 100), ((-48), 0, (-49)), ((-48), 1, 0), ((-47), 0, 105), ((-47), 1, 110), ((-47), 2, 103), ((-46), 0, (-47)), ((-46), 1, 0), ((-45), 0, 117), ((-45), 1, 115), ((-44), 0, (-45)), ((-44), 1, 0), ((-43), 0, 115), ((-43), 1, 115), ((-42), 0, (-43)), ((-42), 1, 0), ((-41), 0, 115), ((-40), 0, (-41)), ((-40), 1, 0), ((-39), 0, 115), ((-39), 1, 115), ((-39), 2, 101), ((-39), 3, 115), ((-38), 0, (-39)), ((-38), 1, 0), ((-37), 0, 105), ((-37), 1, 101), ((-37), 2, 115), ((-36), 0, (-37)), ((-36), 1, 0), ((-35), 0, 98), ((-35), 1, 111), ((-35), 2, 100), ((-35), 3, 121), ((-34), 0, (-35)), ((-34), 1, 0), ((-33), 0, 116), ((-33), 1, 105), ((-33), 2, 116), ((-33), 3, 108), ((-33), 4, 101), ((-32), 0, (-33)), ((-32), 1, 0), ((-31), 0, 105), ((-31), 1, 110), ((-30), 0, (-31)), ((-30), 1, 0), ((-29), 0, 116), ((-29), 1, 111), ((-28), 0, (-29)), ((-28), 1, 0), ((-27), 0, 111), ((-27), 1, 114), ((-26), 0, (-27)), ((-26), 1, 0), ((-25), 0, 97), ((-25), 1, 110), ((-25), 2, 100), ((-24), 0, (-25)), ((-24), 1, 0), ((-23), 0, 111), ((-23), 1, 102), ((-22), 0, (-23)), ((-22), 1, 0), ((-21), 0, 97), ((-21), 1, 110), ((-20), 0, (-21)), ((-20), 1, 0), ((-19), 0, 97), ((-18), 0, (-19)), ((-18), 1, 0), ((-17), 0, 116), ((-17), 1, 104), ((-17), 2, 101), ((-16), 0, (-17)), ((-16), 1, 0), ((-15), 0, 101), ((-15), 1, 100), ((-14), 0, (-15)), ((-14), 1, 0), ((-13), 0, 105), ((-13), 1, 110), ((-13), 2, 103), ((-12), 0, (-13)), ((-12), 1, 0), ((-11), 0, 117), ((-11), 1, 115), ((-10), 0, (-11)), ((-10), 1, 0), ((-9), 0, 115), ((-9), 1, 115), ((-8), 0, (-9)), ((-8), 1, 0), ((-7), 0, 115), ((-6), 0, (-7)), ((-6), 1, 0), ((-5), 0, 115), ((-5), 1, 115), ((-5), 2, 101), ((-5), 3, 115), ((-4), 0, (-5)), ((-4), 1, 0), ((-3), 0, 105), ((-3), 1, 101), ((-3), 2, 115), ((-2), 0, (-3)), ((-2), 1, 0)]
def xcT (a : Int) : Nat × Int := match xnT.find? (fun q => q.1 == a) with
  | some q => q.2
  | none => (999, 0)
def xcP (a k : Int) : Int := match xnP.find? (fun q => q.1 == a && q.2.1 == k) with
  | some q => q.2.2
  | none => 0
def xH0 : XH := (fun a => (xcT a).1, fun a => (xcT a).2, fun a k => xcP a k, 0, 0)
def xK0 : XH := xH0
theorem d_W_law_0 : decode code 0 = .ok (.new 8, 3) := by decide +kernel
theorem w_40 : Cond.classLink "BeaconIndexLaw" 8 "BeaconIndex" ∈ lw_tbl := List.mem_append_right _ (List.mem_of_getElem? (i := 40) (by decide +kernel))
theorem xdf0 : ∀ (G : XG) (k : Nat), k < 7 → defaultValue (xT0 k) = xcv G (xfty 0 k, xdef 0 (k : Int)) := fun G k hk => by
  match k, hk with
  | 0, _ => rfl
  | 1, _ => rfl
  | 2, _ => rfl
  | 3, _ => rfl
  | 4, _ => rfl
  | 5, _ => rfl
  | 6, _ => rfl
  | n + 7, hk => exact absurd hk (by omega)
theorem xd70 : ∀ k, k < 7 → xfty 0 k < 7 := by decide +kernel
theorem d_W_law_3 : decode code 3 = .ok (.dup, 1) := by decide +kernel
theorem d_W_law_4 : decode code 4 = .ok (.invokespecial 104, 3) := by decide +kernel
abbrev m_B_init : XM := (⟨"BeaconIndex", "<init>", "()V"⟩, prog_1_method_1_code, 1, none, [])
theorem k_B_init : xCal m_B_init 0 := ⟨List.mem_append_right _ (List.mem_of_getElem? (i := 44) (by decide +kernel)), w_1, Nat.le_of_ble_eq_true rfl, ⟨by decide +kernel, by decide +kernel⟩, by decide +kernel, by decide +kernel, rfl⟩
theorem w_43 : Cond.instanceMethod ⟨"BeaconIndex", "<init>", "()V"⟩ ∈ lw_tbl := List.mem_append_right _ (List.mem_of_getElem? (i := 43) (by decide +kernel))
theorem w_42 : Cond.methodLink "BeaconIndexLaw" 104 ⟨"BeaconIndex", "<init>", "()V"⟩ ∈ lw_tbl := List.mem_append_right _ (List.mem_of_getElem? (i := 42) (by decide +kernel))
theorem d_B_init_0 : decode prog_1_method_1_code 0 = .ok (.aload_n 0, 1) := by decide +kernel
theorem d_B_init_1 : decode prog_1_method_1_code 1 = .ok (.invokespecial 1, 3) := by decide +kernel
theorem w_45 : Cond.methodLink "BeaconIndex" 1 ⟨"java/lang/Object", "<init>", "()V"⟩ ∈ lw_tbl := List.mem_append_right _ (List.mem_of_getElem? (i := 45) (by decide +kernel))
theorem d_B_init_4 : decode prog_1_method_1_code 4 = .ok (.aload_n 0, 1) := by decide +kernel
theorem d_B_init_5 : decode prog_1_method_1_code 5 = .ok (.new 7, 3) := by decide +kernel
theorem w_48 : Cond.classLink "BeaconIndex" 7 "BeaconIndex$Tape" ∈ lw_tbl := List.mem_append_right _ (List.mem_of_getElem? (i := 48) (by decide +kernel))
theorem xdf8 : ∀ (G : XG) (k : Nat), k < 7 → defaultValue (xT8 k) = xcv G (xfty 8 k, xdef 8 (k : Int)) := fun G k hk => by
  match k, hk with
  | 0, _ => rfl
  | 1, _ => rfl
  | 2, _ => rfl
  | 3, _ => rfl
  | 4, _ => rfl
  | 5, _ => rfl
  | 6, _ => rfl
  | n + 7, hk => exact absurd hk (by omega)
theorem xd78 : ∀ k, k < 7 → xfty 8 k < 7 := by decide +kernel
theorem d_B_init_8 : decode prog_1_method_1_code 8 = .ok (.dup, 1) := by decide +kernel
theorem d_B_init_9 : decode prog_1_method_1_code 9 = .ok (.invokespecial 9, 3) := by decide +kernel
abbrev m_Tape_init : XM := (⟨"BeaconIndex$Tape", "<init>", "()V"⟩, prog_9_method_1_code, 1, none, [])
theorem k_Tape_init : xCal m_Tape_init 0 := ⟨List.mem_append_right _ (List.mem_of_getElem? (i := 52) (by decide +kernel)), w_2, Nat.le_of_ble_eq_true rfl, ⟨by decide +kernel, by decide +kernel⟩, by decide +kernel, by decide +kernel, rfl⟩
theorem w_51 : Cond.instanceMethod ⟨"BeaconIndex$Tape", "<init>", "()V"⟩ ∈ lw_tbl := List.mem_append_right _ (List.mem_of_getElem? (i := 51) (by decide +kernel))
theorem w_50 : Cond.methodLinkNest "BeaconIndex" 9 ⟨"BeaconIndex$Tape", "<init>", "()V"⟩ "BeaconIndex" ∈ lw_tbl := List.mem_append_right _ (List.mem_of_getElem? (i := 50) (by decide +kernel))
theorem d_Tape_init_0 : decode prog_9_method_1_code 0 = .ok (.aload_n 0, 1) := by decide +kernel
theorem d_Tape_init_1 : decode prog_9_method_1_code 1 = .ok (.invokespecial 3, 3) := by decide +kernel
theorem w_53 : Cond.methodLink "BeaconIndex$Tape" 3 ⟨"java/lang/Object", "<init>", "()V"⟩ ∈ lw_tbl := List.mem_append_right _ (List.mem_of_getElem? (i := 53) (by decide +kernel))
theorem d_Tape_init_4 : decode prog_9_method_1_code 4 = .ok (.aload_n 0, 1) := by decide +kernel
theorem d_Tape_init_5 : decode prog_9_method_1_code 5 = .ok (.sipush 400, 3) := by decide +kernel
theorem d_Tape_init_8 : decode prog_9_method_1_code 8 = .ok (.newarray .int, 2) := by decide +kernel
theorem d_Tape_init_10 : decode prog_9_method_1_code 10 = .ok (.putfield 9, 3) := by decide +kernel
theorem d_Tape_init_13 : decode prog_9_method_1_code 13 = .ok (.aload_n 0, 1) := by decide +kernel
theorem d_Tape_init_14 : decode prog_9_method_1_code 14 = .ok (.sipush 200, 3) := by decide +kernel
theorem d_Tape_init_17 : decode prog_9_method_1_code 17 = .ok (.newarray .long, 2) := by decide +kernel
theorem d_Tape_init_19 : decode prog_9_method_1_code 19 = .ok (.putfield 15, 3) := by decide +kernel
theorem d_Tape_init_22 : decode prog_9_method_1_code 22 = .ok (.aload_n 0, 1) := by decide +kernel
theorem d_Tape_init_23 : decode prog_9_method_1_code 23 = .ok (.bipush 12, 2) := by decide +kernel
theorem d_Tape_init_25 : decode prog_9_method_1_code 25 = .ok (.newarray .int, 2) := by decide +kernel
theorem d_Tape_init_27 : decode prog_9_method_1_code 27 = .ok (.putfield 19, 3) := by decide +kernel
theorem d_Tape_init_30 : decode prog_9_method_1_code 30 = .ok (.aload_n 0, 1) := by decide +kernel
theorem d_Tape_init_31 : decode prog_9_method_1_code 31 = .ok (.iconst 0, 1) := by decide +kernel
theorem d_Tape_init_32 : decode prog_9_method_1_code 32 = .ok (.putfield 22, 3) := by decide +kernel
theorem d_Tape_init_35 : decode prog_9_method_1_code 35 = .ok (.aload_n 0, 1) := by decide +kernel
theorem d_Tape_init_36 : decode prog_9_method_1_code 36 = .ok (.iconst 0, 1) := by decide +kernel
theorem d_Tape_init_37 : decode prog_9_method_1_code 37 = .ok (.putfield 26, 3) := by decide +kernel
theorem d_Tape_init_40 : decode prog_9_method_1_code 40 = .ok (.aload_n 0, 1) := by decide +kernel
theorem d_Tape_init_41 : decode prog_9_method_1_code 41 = .ok (.iconst 0, 1) := by decide +kernel
theorem d_Tape_init_42 : decode prog_9_method_1_code 42 = .ok (.putfield 29, 3) := by decide +kernel
theorem d_Tape_init_45 : decode prog_9_method_1_code 45 = .ok (.aload_n 0, 1) := by decide +kernel
theorem d_Tape_init_46 : decode prog_9_method_1_code 46 = .ok (.iconst 0, 1) := by decide +kernel
theorem d_Tape_init_47 : decode prog_9_method_1_code 47 = .ok (.putfield 32, 3) := by decide +kernel
theorem d_Tape_init_50 : decode prog_9_method_1_code 50 = .ok (.return_, 1) := by decide +kernel
theorem d_B_init_12 : decode prog_1_method_1_code 12 = .ok (.putfield 10, 3) := by decide +kernel
theorem d_B_init_15 : decode prog_1_method_1_code 15 = .ok (.aload_n 0, 1) := by decide +kernel
theorem d_B_init_16 : decode prog_1_method_1_code 16 = .ok (.new 16, 3) := by decide +kernel
theorem w_81 : Cond.classLink "BeaconIndex" 16 "BeaconIndex$Store" ∈ lw_tbl := List.mem_append_right _ (List.mem_of_getElem? (i := 81) (by decide +kernel))
theorem xdf7 : ∀ (G : XG) (k : Nat), k < 6 → defaultValue (xT7 k) = xcv G (xfty 7 k, xdef 7 (k : Int)) := fun G k hk => by
  match k, hk with
  | 0, _ => rfl
  | 1, _ => rfl
  | 2, _ => rfl
  | 3, _ => rfl
  | 4, _ => rfl
  | 5, _ => rfl
  | n + 6, hk => exact absurd hk (by omega)
theorem xd77 : ∀ k, k < 6 → xfty 7 k < 7 := by decide +kernel
theorem d_B_init_19 : decode prog_1_method_1_code 19 = .ok (.dup, 1) := by decide +kernel
theorem d_B_init_20 : decode prog_1_method_1_code 20 = .ok (.invokespecial 18, 3) := by decide +kernel
abbrev m_Store_init : XM := (⟨"BeaconIndex$Store", "<init>", "()V"⟩, prog_8_method_1_code, 1, none, [])
theorem k_Store_init : xCal m_Store_init 0 := ⟨List.mem_append_right _ (List.mem_of_getElem? (i := 85) (by decide +kernel)), w_3, Nat.le_of_ble_eq_true rfl, ⟨by decide +kernel, by decide +kernel⟩, by decide +kernel, by decide +kernel, rfl⟩
theorem w_84 : Cond.instanceMethod ⟨"BeaconIndex$Store", "<init>", "()V"⟩ ∈ lw_tbl := List.mem_append_right _ (List.mem_of_getElem? (i := 84) (by decide +kernel))
theorem w_83 : Cond.methodLinkNest "BeaconIndex" 18 ⟨"BeaconIndex$Store", "<init>", "()V"⟩ "BeaconIndex" ∈ lw_tbl := List.mem_append_right _ (List.mem_of_getElem? (i := 83) (by decide +kernel))
theorem d_Store_init_0 : decode prog_8_method_1_code 0 = .ok (.aload_n 0, 1) := by decide +kernel
theorem d_Store_init_1 : decode prog_8_method_1_code 1 = .ok (.invokespecial 3, 3) := by decide +kernel
theorem w_86 : Cond.methodLink "BeaconIndex$Store" 3 ⟨"java/lang/Object", "<init>", "()V"⟩ ∈ lw_tbl := List.mem_append_right _ (List.mem_of_getElem? (i := 86) (by decide +kernel))
theorem d_Store_init_4 : decode prog_8_method_1_code 4 = .ok (.aload_n 0, 1) := by decide +kernel
theorem d_Store_init_5 : decode prog_8_method_1_code 5 = .ok (.new 9, 3) := by decide +kernel
theorem w_87 : Cond.classLink "BeaconIndex$Store" 9 "java/util/ArrayList" ∈ lw_tbl := List.mem_append_right _ (List.mem_of_getElem? (i := 87) (by decide +kernel))
theorem d_Store_init_8 : decode prog_8_method_1_code 8 = .ok (.dup, 1) := by decide +kernel
theorem d_Store_init_9 : decode prog_8_method_1_code 9 = .ok (.invokespecial 11, 3) := by decide +kernel
theorem w_89 : Cond.methodLink "BeaconIndex$Store" 11 ⟨"java/util/ArrayList", "<init>", "()V"⟩ ∈ lw_tbl := List.mem_append_right _ (List.mem_of_getElem? (i := 89) (by decide +kernel))
theorem d_Store_init_12 : decode prog_8_method_1_code 12 = .ok (.putfield 12, 3) := by decide +kernel
theorem d_Store_init_15 : decode prog_8_method_1_code 15 = .ok (.aload_n 0, 1) := by decide +kernel
theorem d_Store_init_16 : decode prog_8_method_1_code 16 = .ok (.new 9, 3) := by decide +kernel
theorem d_Store_init_19 : decode prog_8_method_1_code 19 = .ok (.dup, 1) := by decide +kernel
theorem d_Store_init_20 : decode prog_8_method_1_code 20 = .ok (.invokespecial 11, 3) := by decide +kernel
theorem d_Store_init_23 : decode prog_8_method_1_code 23 = .ok (.putfield 18, 3) := by decide +kernel
theorem d_Store_init_26 : decode prog_8_method_1_code 26 = .ok (.aload_n 0, 1) := by decide +kernel
theorem d_Store_init_27 : decode prog_8_method_1_code 27 = .ok (.bipush 60, 2) := by decide +kernel
theorem d_Store_init_29 : decode prog_8_method_1_code 29 = .ok (.newarray .int, 2) := by decide +kernel
theorem d_Store_init_31 : decode prog_8_method_1_code 31 = .ok (.putfield 21, 3) := by decide +kernel
theorem d_Store_init_34 : decode prog_8_method_1_code 34 = .ok (.aload_n 0, 1) := by decide +kernel
theorem d_Store_init_35 : decode prog_8_method_1_code 35 = .ok (.new 25, 3) := by decide +kernel
theorem d_Store_init_38 : decode prog_8_method_1_code 38 = .ok (.dup, 1) := by decide +kernel
theorem d_Store_init_39 : decode prog_8_method_1_code 39 = .ok (.iconst 0, 1) := by decide +kernel
theorem d_Store_init_40 : decode prog_8_method_1_code 40 = .ok (.iconst 0, 1) := by decide +kernel
theorem d_Store_init_41 : decode prog_8_method_1_code 41 = .ok (.iconst 0, 1) := by decide +kernel
theorem d_Store_init_42 : decode prog_8_method_1_code 42 = .ok (.iconst 0, 1) := by decide +kernel
theorem d_Store_init_43 : decode prog_8_method_1_code 43 = .ok (.newarray .long, 2) := by decide +kernel
theorem d_Store_init_45 : decode prog_8_method_1_code 45 = .ok (.iconst 0, 1) := by decide +kernel
theorem d_Store_init_46 : decode prog_8_method_1_code 46 = .ok (.newarray .long, 2) := by decide +kernel
theorem d_Store_init_48 : decode prog_8_method_1_code 48 = .ok (.invokespecial 27, 3) := by decide +kernel
theorem w_115 : Cond.methodLink "BeaconIndex$Store" 27 ⟨"BeaconIndex$Text", "<init>", "(III[J[J)V"⟩ ∈ lw_tbl := List.mem_append_right _ (List.mem_of_getElem? (i := 115) (by decide +kernel))
theorem d_Store_init_51 : decode prog_8_method_1_code 51 = .ok (.putfield 30, 3) := by decide +kernel
theorem d_Store_init_54 : decode prog_8_method_1_code 54 = .ok (.aload_n 0, 1) := by decide +kernel
theorem d_Store_init_55 : decode prog_8_method_1_code 55 = .ok (.iconst 0, 1) := by decide +kernel
theorem d_Store_init_56 : decode prog_8_method_1_code 56 = .ok (.putfield 34, 3) := by decide +kernel
theorem d_Store_init_59 : decode prog_8_method_1_code 59 = .ok (.aload_n 0, 1) := by decide +kernel
theorem d_Store_init_60 : decode prog_8_method_1_code 60 = .ok (.iconst 0, 1) := by decide +kernel
theorem d_Store_init_61 : decode prog_8_method_1_code 61 = .ok (.putfield 38, 3) := by decide +kernel
theorem d_Store_init_64 : decode prog_8_method_1_code 64 = .ok (.return_, 1) := by decide +kernel
theorem d_B_init_23 : decode prog_1_method_1_code 23 = .ok (.putfield 19, 3) := by decide +kernel
theorem d_B_init_26 : decode prog_1_method_1_code 26 = .ok (.aload_n 0, 1) := by decide +kernel
theorem d_B_init_27 : decode prog_1_method_1_code 27 = .ok (.new 23, 3) := by decide +kernel
theorem w_171 : Cond.classLink "BeaconIndex" 23 "BeaconIndex$Vocabulary" ∈ lw_tbl := List.mem_append_right _ (List.mem_of_getElem? (i := 171) (by decide +kernel))
theorem xdf10 : ∀ (G : XG) (k : Nat), k < 7 → defaultValue (xT10 k) = xcv G (xfty 10 k, xdef 10 (k : Int)) := fun G k hk => by
  match k, hk with
  | 0, _ => rfl
  | 1, _ => rfl
  | 2, _ => rfl
  | 3, _ => rfl
  | 4, _ => rfl
  | 5, _ => rfl
  | 6, _ => rfl
  | n + 7, hk => exact absurd hk (by omega)
theorem xd710 : ∀ k, k < 7 → xfty 10 k < 7 := by decide +kernel
theorem d_B_init_30 : decode prog_1_method_1_code 30 = .ok (.dup, 1) := by decide +kernel
theorem d_B_init_31 : decode prog_1_method_1_code 31 = .ok (.invokespecial 25, 3) := by decide +kernel
abbrev m_Vocabulary_init : XM := (⟨"BeaconIndex$Vocabulary", "<init>", "()V"⟩, prog_11_method_1_code, 1, none, [])
theorem k_Vocabulary_init : xCal m_Vocabulary_init 0 := ⟨List.mem_append_right _ (List.mem_of_getElem? (i := 175) (by decide +kernel)), w_8, Nat.le_of_ble_eq_true rfl, ⟨by decide +kernel, by decide +kernel⟩, by decide +kernel, by decide +kernel, rfl⟩
theorem w_174 : Cond.instanceMethod ⟨"BeaconIndex$Vocabulary", "<init>", "()V"⟩ ∈ lw_tbl := List.mem_append_right _ (List.mem_of_getElem? (i := 174) (by decide +kernel))
theorem w_173 : Cond.methodLinkNest "BeaconIndex" 25 ⟨"BeaconIndex$Vocabulary", "<init>", "()V"⟩ "BeaconIndex" ∈ lw_tbl := List.mem_append_right _ (List.mem_of_getElem? (i := 173) (by decide +kernel))
theorem d_Vocabulary_init_0 : decode prog_11_method_1_code 0 = .ok (.aload_n 0, 1) := by decide +kernel
theorem d_Vocabulary_init_1 : decode prog_11_method_1_code 1 = .ok (.invokespecial 3, 3) := by decide +kernel
theorem w_176 : Cond.methodLink "BeaconIndex$Vocabulary" 3 ⟨"java/lang/Object", "<init>", "()V"⟩ ∈ lw_tbl := List.mem_append_right _ (List.mem_of_getElem? (i := 176) (by decide +kernel))
theorem d_Vocabulary_init_4 : decode prog_11_method_1_code 4 = .ok (.aload_n 0, 1) := by decide +kernel
theorem d_Vocabulary_init_5 : decode prog_11_method_1_code 5 = .ok (.bipush 64, 2) := by decide +kernel
theorem d_Vocabulary_init_7 : decode prog_11_method_1_code 7 = .ok (.newarray .long, 2) := by decide +kernel
theorem d_Vocabulary_init_9 : decode prog_11_method_1_code 9 = .ok (.putfield 9, 3) := by decide +kernel
theorem d_Vocabulary_init_12 : decode prog_11_method_1_code 12 = .ok (.aload_n 0, 1) := by decide +kernel
theorem d_Vocabulary_init_13 : decode prog_11_method_1_code 13 = .ok (.bipush 64, 2) := by decide +kernel
theorem d_Vocabulary_init_15 : decode prog_11_method_1_code 15 = .ok (.newarray .int, 2) := by decide +kernel
theorem d_Vocabulary_init_17 : decode prog_11_method_1_code 17 = .ok (.putfield 15, 3) := by decide +kernel
theorem d_Vocabulary_init_20 : decode prog_11_method_1_code 20 = .ok (.aload_n 0, 1) := by decide +kernel
theorem d_Vocabulary_init_21 : decode prog_11_method_1_code 21 = .ok (.bipush 64, 2) := by decide +kernel
theorem d_Vocabulary_init_23 : decode prog_11_method_1_code 23 = .ok (.newarray .int, 2) := by decide +kernel
theorem d_Vocabulary_init_25 : decode prog_11_method_1_code 25 = .ok (.putfield 19, 3) := by decide +kernel
theorem d_Vocabulary_init_28 : decode prog_11_method_1_code 28 = .ok (.aload_n 0, 1) := by decide +kernel
theorem d_Vocabulary_init_29 : decode prog_11_method_1_code 29 = .ok (.iconst 0, 1) := by decide +kernel
theorem d_Vocabulary_init_30 : decode prog_11_method_1_code 30 = .ok (.putfield 22, 3) := by decide +kernel
theorem d_Vocabulary_init_33 : decode prog_11_method_1_code 33 = .ok (.aload_n 0, 1) := by decide +kernel
theorem d_Vocabulary_init_34 : decode prog_11_method_1_code 34 = .ok (.bipush 13, 2) := by decide +kernel
theorem d_Vocabulary_init_36 : decode prog_11_method_1_code 36 = .ok (.bipush 13, 2) := by decide +kernel
theorem d_Vocabulary_init_38 : decode prog_11_method_1_code 38 = .ok (.multianewarray 26 2, 4) := by decide +kernel
theorem w_177 : Cond.classLink "BeaconIndex$Vocabulary" 26 "[[I" ∈ lw_tbl := List.mem_append_right _ (List.mem_of_getElem? (i := 177) (by decide +kernel))
theorem w_178 : Cond.arrayOver (.array .int) ∈ lw_tbl := List.mem_append_right _ (List.mem_of_getElem? (i := 178) (by decide +kernel))
theorem d_Vocabulary_init_42 : decode prog_11_method_1_code 42 = .ok (.putfield 28, 3) := by decide +kernel
theorem d_Vocabulary_init_45 : decode prog_11_method_1_code 45 = .ok (.aload_n 0, 1) := by decide +kernel
theorem d_Vocabulary_init_46 : decode prog_11_method_1_code 46 = .ok (.bipush 12, 2) := by decide +kernel
theorem d_Vocabulary_init_48 : decode prog_11_method_1_code 48 = .ok (.newarray .int, 2) := by decide +kernel
theorem d_Vocabulary_init_50 : decode prog_11_method_1_code 50 = .ok (.putfield 31, 3) := by decide +kernel
theorem d_Vocabulary_init_53 : decode prog_11_method_1_code 53 = .ok (.aload_n 0, 1) := by decide +kernel
theorem d_Vocabulary_init_54 : decode prog_11_method_1_code 54 = .ok (.bipush 12, 2) := by decide +kernel
theorem d_Vocabulary_init_56 : decode prog_11_method_1_code 56 = .ok (.newarray .int, 2) := by decide +kernel
theorem d_Vocabulary_init_58 : decode prog_11_method_1_code 58 = .ok (.putfield 34, 3) := by decide +kernel
theorem d_Vocabulary_init_61 : decode prog_11_method_1_code 61 = .ok (.return_, 1) := by decide +kernel
theorem d_B_init_34 : decode prog_1_method_1_code 34 = .ok (.putfield 26, 3) := by decide +kernel
theorem d_B_init_37 : decode prog_1_method_1_code 37 = .ok (.aload_n 0, 1) := by decide +kernel
theorem d_B_init_38 : decode prog_1_method_1_code 38 = .ok (.new 30, 3) := by decide +kernel
theorem w_202 : Cond.classLink "BeaconIndex" 30 "BeaconIndex$QuestionReader" ∈ lw_tbl := List.mem_append_right _ (List.mem_of_getElem? (i := 202) (by decide +kernel))
theorem xdf6 : ∀ (G : XG) (k : Nat), k < 15 → defaultValue (xT6 k) = xcv G (xfty 6 k, xdef 6 (k : Int)) := fun G k hk => by
  match k, hk with
  | 0, _ => rfl
  | 1, _ => rfl
  | 2, _ => rfl
  | 3, _ => rfl
  | 4, _ => rfl
  | 5, _ => rfl
  | 6, _ => rfl
  | 7, _ => rfl
  | 8, _ => rfl
  | 9, _ => rfl
  | 10, _ => rfl
  | 11, _ => rfl
  | 12, _ => rfl
  | 13, _ => rfl
  | 14, _ => rfl
  | n + 15, hk => exact absurd hk (by omega)
theorem xd76 : ∀ k, k < 15 → xfty 6 k < 7 := by decide +kernel
theorem d_B_init_41 : decode prog_1_method_1_code 41 = .ok (.dup, 1) := by decide +kernel
theorem d_B_init_42 : decode prog_1_method_1_code 42 = .ok (.invokespecial 32, 3) := by decide +kernel
abbrev m_QuestionReader_init : XM := (⟨"BeaconIndex$QuestionReader", "<init>", "()V"⟩, prog_7_method_1_code, 1, none, [])
theorem k_QuestionReader_init : xCal m_QuestionReader_init 0 := ⟨List.mem_append_right _ (List.mem_of_getElem? (i := 206) (by decide +kernel)), w_9, Nat.le_of_ble_eq_true rfl, ⟨by decide +kernel, by decide +kernel⟩, by decide +kernel, by decide +kernel, rfl⟩
theorem w_205 : Cond.instanceMethod ⟨"BeaconIndex$QuestionReader", "<init>", "()V"⟩ ∈ lw_tbl := List.mem_append_right _ (List.mem_of_getElem? (i := 205) (by decide +kernel))
theorem w_204 : Cond.methodLinkNest "BeaconIndex" 32 ⟨"BeaconIndex$QuestionReader", "<init>", "()V"⟩ "BeaconIndex" ∈ lw_tbl := List.mem_append_right _ (List.mem_of_getElem? (i := 204) (by decide +kernel))
theorem d_QuestionReader_init_0 : decode prog_7_method_1_code 0 = .ok (.aload_n 0, 1) := by decide +kernel
theorem d_QuestionReader_init_1 : decode prog_7_method_1_code 1 = .ok (.invokespecial 3, 3) := by decide +kernel
theorem w_207 : Cond.methodLink "BeaconIndex$QuestionReader" 3 ⟨"java/lang/Object", "<init>", "()V"⟩ ∈ lw_tbl := List.mem_append_right _ (List.mem_of_getElem? (i := 207) (by decide +kernel))
theorem d_QuestionReader_init_4 : decode prog_7_method_1_code 4 = .ok (.aload_n 0, 1) := by decide +kernel
theorem d_QuestionReader_init_5 : decode prog_7_method_1_code 5 = .ok (.bipush 40, 2) := by decide +kernel
theorem d_QuestionReader_init_7 : decode prog_7_method_1_code 7 = .ok (.newarray .long, 2) := by decide +kernel
theorem d_QuestionReader_init_9 : decode prog_7_method_1_code 9 = .ok (.putfield 9, 3) := by decide +kernel
theorem d_QuestionReader_init_12 : decode prog_7_method_1_code 12 = .ok (.aload_n 0, 1) := by decide +kernel
theorem d_QuestionReader_init_13 : decode prog_7_method_1_code 13 = .ok (.iconst 0, 1) := by decide +kernel
theorem d_QuestionReader_init_14 : decode prog_7_method_1_code 14 = .ok (.putfield 15, 3) := by decide +kernel
theorem d_QuestionReader_init_17 : decode prog_7_method_1_code 17 = .ok (.aload_n 0, 1) := by decide +kernel
theorem d_QuestionReader_init_18 : decode prog_7_method_1_code 18 = .ok (.new 19, 3) := by decide +kernel
theorem d_QuestionReader_init_21 : decode prog_7_method_1_code 21 = .ok (.dup, 1) := by decide +kernel
theorem d_QuestionReader_init_22 : decode prog_7_method_1_code 22 = .ok (.invokespecial 21, 3) := by decide +kernel
theorem d_QuestionReader_init_25 : decode prog_7_method_1_code 25 = .ok (.putfield 22, 3) := by decide +kernel
theorem d_QuestionReader_init_28 : decode prog_7_method_1_code 28 = .ok (.aload_n 0, 1) := by decide +kernel
theorem d_QuestionReader_init_29 : decode prog_7_method_1_code 29 = .ok (.new 26, 3) := by decide +kernel
theorem d_QuestionReader_init_32 : decode prog_7_method_1_code 32 = .ok (.dup, 1) := by decide +kernel
theorem d_QuestionReader_init_33 : decode prog_7_method_1_code 33 = .ok (.iconst 0, 1) := by decide +kernel
theorem d_QuestionReader_init_34 : decode prog_7_method_1_code 34 = .ok (.iconst 0, 1) := by decide +kernel
theorem d_QuestionReader_init_35 : decode prog_7_method_1_code 35 = .ok (.iconst 2, 1) := by decide +kernel
theorem d_QuestionReader_init_36 : decode prog_7_method_1_code 36 = .ok (.iconst 0, 1) := by decide +kernel
theorem d_QuestionReader_init_37 : decode prog_7_method_1_code 37 = .ok (.iconst 3, 1) := by decide +kernel
theorem d_QuestionReader_init_38 : decode prog_7_method_1_code 38 = .ok (.iconst 0, 1) := by decide +kernel
theorem d_QuestionReader_init_39 : decode prog_7_method_1_code 39 = .ok (.newarray .long, 2) := by decide +kernel
theorem d_QuestionReader_init_41 : decode prog_7_method_1_code 41 = .ok (.invokespecial 28, 3) := by decide +kernel
theorem d_QuestionReader_init_44 : decode prog_7_method_1_code 44 = .ok (.putfield 31, 3) := by decide +kernel
theorem d_QuestionReader_init_47 : decode prog_7_method_1_code 47 = .ok (.aload_n 0, 1) := by decide +kernel
theorem d_QuestionReader_init_48 : decode prog_7_method_1_code 48 = .ok (.new 35, 3) := by decide +kernel
theorem d_QuestionReader_init_51 : decode prog_7_method_1_code 51 = .ok (.dup, 1) := by decide +kernel
theorem d_QuestionReader_init_52 : decode prog_7_method_1_code 52 = .ok (.invokespecial 37, 3) := by decide +kernel
theorem d_QuestionReader_init_55 : decode prog_7_method_1_code 55 = .ok (.putfield 38, 3) := by decide +kernel
theorem w_310 : Cond.fieldLink "BeaconIndex$QuestionReader" 38 "BeaconIndex$QuestionReader" "noQuestion" "LBeaconIndex$Question;" ∈ lw_tbl := List.mem_append_right _ (List.mem_of_getElem? (i := 310) (by decide +kernel))
theorem d_QuestionReader_init_58 : decode prog_7_method_1_code 58 = .ok (.aload_n 0, 1) := by decide +kernel
theorem d_QuestionReader_init_59 : decode prog_7_method_1_code 59 = .ok (.new 19, 3) := by decide +kernel
theorem d_QuestionReader_init_62 : decode prog_7_method_1_code 62 = .ok (.dup, 1) := by decide +kernel
theorem d_QuestionReader_init_63 : decode prog_7_method_1_code 63 = .ok (.invokespecial 21, 3) := by decide +kernel
theorem d_QuestionReader_init_66 : decode prog_7_method_1_code 66 = .ok (.putfield 42, 3) := by decide +kernel
theorem d_QuestionReader_init_69 : decode prog_7_method_1_code 69 = .ok (.aload_n 0, 1) := by decide +kernel
theorem d_QuestionReader_init_70 : decode prog_7_method_1_code 70 = .ok (.iconst 0, 1) := by decide +kernel
theorem d_QuestionReader_init_71 : decode prog_7_method_1_code 71 = .ok (.putfield 45, 3) := by decide +kernel
theorem d_QuestionReader_init_74 : decode prog_7_method_1_code 74 = .ok (.aload_n 0, 1) := by decide +kernel
theorem d_QuestionReader_init_75 : decode prog_7_method_1_code 75 = .ok (.aload_n 0, 1) := by decide +kernel
theorem d_QuestionReader_init_76 : decode prog_7_method_1_code 76 = .ok (.getfield 31, 3) := by decide +kernel
theorem d_QuestionReader_init_79 : decode prog_7_method_1_code 79 = .ok (.putfield 48, 3) := by decide +kernel
theorem d_QuestionReader_init_82 : decode prog_7_method_1_code 82 = .ok (.aload_n 0, 1) := by decide +kernel
theorem d_QuestionReader_init_83 : decode prog_7_method_1_code 83 = .ok (.iconst 0, 1) := by decide +kernel
theorem d_QuestionReader_init_84 : decode prog_7_method_1_code 84 = .ok (.putfield 51, 3) := by decide +kernel
theorem d_QuestionReader_init_87 : decode prog_7_method_1_code 87 = .ok (.aload_n 0, 1) := by decide +kernel
theorem d_QuestionReader_init_88 : decode prog_7_method_1_code 88 = .ok (.iconst 0, 1) := by decide +kernel
theorem d_QuestionReader_init_89 : decode prog_7_method_1_code 89 = .ok (.putfield 54, 3) := by decide +kernel
theorem d_QuestionReader_init_92 : decode prog_7_method_1_code 92 = .ok (.aload_n 0, 1) := by decide +kernel
theorem d_QuestionReader_init_93 : decode prog_7_method_1_code 93 = .ok (.iconst 0, 1) := by decide +kernel
theorem d_QuestionReader_init_94 : decode prog_7_method_1_code 94 = .ok (.putfield 57, 3) := by decide +kernel
theorem d_QuestionReader_init_97 : decode prog_7_method_1_code 97 = .ok (.aload_n 0, 1) := by decide +kernel
theorem d_QuestionReader_init_98 : decode prog_7_method_1_code 98 = .ok (.lconst 0, 1) := by decide +kernel
theorem d_QuestionReader_init_99 : decode prog_7_method_1_code 99 = .ok (.putfield 60, 3) := by decide +kernel
theorem d_QuestionReader_init_102 : decode prog_7_method_1_code 102 = .ok (.aload_n 0, 1) := by decide +kernel
theorem d_QuestionReader_init_103 : decode prog_7_method_1_code 103 = .ok (.iconst 0, 1) := by decide +kernel
theorem d_QuestionReader_init_104 : decode prog_7_method_1_code 104 = .ok (.putfield 64, 3) := by decide +kernel
theorem d_QuestionReader_init_107 : decode prog_7_method_1_code 107 = .ok (.aload_n 0, 1) := by decide +kernel
theorem d_QuestionReader_init_108 : decode prog_7_method_1_code 108 = .ok (.iconst 0, 1) := by decide +kernel
theorem d_QuestionReader_init_109 : decode prog_7_method_1_code 109 = .ok (.putfield 67, 3) := by decide +kernel
theorem d_QuestionReader_init_112 : decode prog_7_method_1_code 112 = .ok (.aload_n 0, 1) := by decide +kernel
theorem d_QuestionReader_init_113 : decode prog_7_method_1_code 113 = .ok (.iconst 2, 1) := by decide +kernel
theorem d_QuestionReader_init_114 : decode prog_7_method_1_code 114 = .ok (.putfield 70, 3) := by decide +kernel
theorem d_QuestionReader_init_117 : decode prog_7_method_1_code 117 = .ok (.return_, 1) := by decide +kernel
theorem d_B_init_45 : decode prog_1_method_1_code 45 = .ok (.putfield 33, 3) := by decide +kernel
theorem d_B_init_48 : decode prog_1_method_1_code 48 = .ok (.aload_n 0, 1) := by decide +kernel
theorem d_B_init_49 : decode prog_1_method_1_code 49 = .ok (.new 37, 3) := by decide +kernel
theorem w_354 : Cond.classLink "BeaconIndex" 37 "BeaconIndex$Findings" ∈ lw_tbl := List.mem_append_right _ (List.mem_of_getElem? (i := 354) (by decide +kernel))
theorem xdf1 : ∀ (G : XG) (k : Nat), k < 6 → defaultValue (xT1 k) = xcv G (xfty 1 k, xdef 1 (k : Int)) := fun G k hk => by
  match k, hk with
  | 0, _ => rfl
  | 1, _ => rfl
  | 2, _ => rfl
  | 3, _ => rfl
  | 4, _ => rfl
  | 5, _ => rfl
  | n + 6, hk => exact absurd hk (by omega)
theorem xd71 : ∀ k, k < 6 → xfty 1 k < 7 := by decide +kernel
theorem d_B_init_52 : decode prog_1_method_1_code 52 = .ok (.dup, 1) := by decide +kernel
theorem d_B_init_53 : decode prog_1_method_1_code 53 = .ok (.invokespecial 39, 3) := by decide +kernel
abbrev m_Findings_init : XM := (⟨"BeaconIndex$Findings", "<init>", "()V"⟩, prog_2_method_1_code, 1, none, [])
theorem k_Findings_init : xCal m_Findings_init 0 := ⟨List.mem_append_right _ (List.mem_of_getElem? (i := 358) (by decide +kernel)), w_12, Nat.le_of_ble_eq_true rfl, ⟨by decide +kernel, by decide +kernel⟩, by decide +kernel, by decide +kernel, rfl⟩
theorem w_357 : Cond.instanceMethod ⟨"BeaconIndex$Findings", "<init>", "()V"⟩ ∈ lw_tbl := List.mem_append_right _ (List.mem_of_getElem? (i := 357) (by decide +kernel))
theorem w_356 : Cond.methodLinkNest "BeaconIndex" 39 ⟨"BeaconIndex$Findings", "<init>", "()V"⟩ "BeaconIndex" ∈ lw_tbl := List.mem_append_right _ (List.mem_of_getElem? (i := 356) (by decide +kernel))
theorem d_Findings_init_0 : decode prog_2_method_1_code 0 = .ok (.aload_n 0, 1) := by decide +kernel
theorem d_Findings_init_1 : decode prog_2_method_1_code 1 = .ok (.invokespecial 3, 3) := by decide +kernel
theorem w_359 : Cond.methodLink "BeaconIndex$Findings" 3 ⟨"java/lang/Object", "<init>", "()V"⟩ ∈ lw_tbl := List.mem_append_right _ (List.mem_of_getElem? (i := 359) (by decide +kernel))
theorem d_Findings_init_4 : decode prog_2_method_1_code 4 = .ok (.aload_n 0, 1) := by decide +kernel
theorem d_Findings_init_5 : decode prog_2_method_1_code 5 = .ok (.new 9, 3) := by decide +kernel
theorem w_360 : Cond.classLink "BeaconIndex$Findings" 9 "BeaconIndex$Fits" ∈ lw_tbl := List.mem_append_right _ (List.mem_of_getElem? (i := 360) (by decide +kernel))
theorem xdf2 : ∀ (G : XG) (k : Nat), k < 4 → defaultValue (xT2 k) = xcv G (xfty 2 k, xdef 2 (k : Int)) := fun G k hk => by
  match k, hk with
  | 0, _ => rfl
  | 1, _ => rfl
  | 2, _ => rfl
  | 3, _ => rfl
  | n + 4, hk => exact absurd hk (by omega)
theorem xd72 : ∀ k, k < 4 → xfty 2 k < 7 := by decide +kernel
theorem d_Findings_init_8 : decode prog_2_method_1_code 8 = .ok (.dup, 1) := by decide +kernel
theorem d_Findings_init_9 : decode prog_2_method_1_code 9 = .ok (.invokespecial 11, 3) := by decide +kernel
abbrev m_Fits_init : XM := (⟨"BeaconIndex$Fits", "<init>", "()V"⟩, prog_3_method_1_code, 1, none, [])
theorem k_Fits_init : xCal m_Fits_init 0 := ⟨List.mem_append_right _ (List.mem_of_getElem? (i := 364) (by decide +kernel)), w_13, Nat.le_of_ble_eq_true rfl, ⟨by decide +kernel, by decide +kernel⟩, by decide +kernel, by decide +kernel, rfl⟩
theorem w_363 : Cond.instanceMethod ⟨"BeaconIndex$Fits", "<init>", "()V"⟩ ∈ lw_tbl := List.mem_append_right _ (List.mem_of_getElem? (i := 363) (by decide +kernel))
theorem w_362 : Cond.methodLinkNest "BeaconIndex$Findings" 11 ⟨"BeaconIndex$Fits", "<init>", "()V"⟩ "BeaconIndex" ∈ lw_tbl := List.mem_append_right _ (List.mem_of_getElem? (i := 362) (by decide +kernel))
theorem d_Fits_init_0 : decode prog_3_method_1_code 0 = .ok (.aload_n 0, 1) := by decide +kernel
theorem d_Fits_init_1 : decode prog_3_method_1_code 1 = .ok (.invokespecial 3, 3) := by decide +kernel
theorem w_365 : Cond.methodLink "BeaconIndex$Fits" 3 ⟨"java/lang/Object", "<init>", "()V"⟩ ∈ lw_tbl := List.mem_append_right _ (List.mem_of_getElem? (i := 365) (by decide +kernel))
theorem d_Fits_init_4 : decode prog_3_method_1_code 4 = .ok (.aload_n 0, 1) := by decide +kernel
theorem d_Fits_init_5 : decode prog_3_method_1_code 5 = .ok (.sipush 4800, 3) := by decide +kernel
theorem d_Fits_init_8 : decode prog_3_method_1_code 8 = .ok (.newarray .int, 2) := by decide +kernel
theorem d_Fits_init_10 : decode prog_3_method_1_code 10 = .ok (.putfield 9, 3) := by decide +kernel
theorem d_Fits_init_13 : decode prog_3_method_1_code 13 = .ok (.aload_n 0, 1) := by decide +kernel
theorem d_Fits_init_14 : decode prog_3_method_1_code 14 = .ok (.sipush 4800, 3) := by decide +kernel
theorem d_Fits_init_17 : decode prog_3_method_1_code 17 = .ok (.newarray .int, 2) := by decide +kernel
theorem d_Fits_init_19 : decode prog_3_method_1_code 19 = .ok (.putfield 15, 3) := by decide +kernel
theorem d_Fits_init_22 : decode prog_3_method_1_code 22 = .ok (.aload_n 0, 1) := by decide +kernel
theorem d_Fits_init_23 : decode prog_3_method_1_code 23 = .ok (.iconst 2, 1) := by decide +kernel
theorem d_Fits_init_24 : decode prog_3_method_1_code 24 = .ok (.newarray .int, 2) := by decide +kernel
theorem d_Fits_init_26 : decode prog_3_method_1_code 26 = .ok (.putfield 18, 3) := by decide +kernel
theorem d_Fits_init_29 : decode prog_3_method_1_code 29 = .ok (.aload_n 0, 1) := by decide +kernel
theorem d_Fits_init_30 : decode prog_3_method_1_code 30 = .ok (.new 21, 3) := by decide +kernel
theorem w_366 : Cond.classLink "BeaconIndex$Fits" 21 "BeaconIndex$Match" ∈ lw_tbl := List.mem_append_right _ (List.mem_of_getElem? (i := 366) (by decide +kernel))
theorem xdf3 : ∀ (G : XG) (k : Nat), k < 6 → defaultValue (xT3 k) = xcv G (xfty 3 k, xdef 3 (k : Int)) := fun G k hk => by
  match k, hk with
  | 0, _ => rfl
  | 1, _ => rfl
  | 2, _ => rfl
  | 3, _ => rfl
  | 4, _ => rfl
  | 5, _ => rfl
  | n + 6, hk => exact absurd hk (by omega)
theorem xd73 : ∀ k, k < 6 → xfty 3 k < 7 := by decide +kernel
theorem d_Fits_init_33 : decode prog_3_method_1_code 33 = .ok (.dup, 1) := by decide +kernel
theorem d_Fits_init_34 : decode prog_3_method_1_code 34 = .ok (.invokespecial 23, 3) := by decide +kernel
abbrev m_Match_init : XM := (⟨"BeaconIndex$Match", "<init>", "()V"⟩, prog_4_method_1_code, 1, none, [])
theorem k_Match_init : xCal m_Match_init 0 := ⟨List.mem_append_right _ (List.mem_of_getElem? (i := 370) (by decide +kernel)), w_14, Nat.le_of_ble_eq_true rfl, ⟨by decide +kernel, by decide +kernel⟩, by decide +kernel, by decide +kernel, rfl⟩
theorem w_369 : Cond.instanceMethod ⟨"BeaconIndex$Match", "<init>", "()V"⟩ ∈ lw_tbl := List.mem_append_right _ (List.mem_of_getElem? (i := 369) (by decide +kernel))
theorem w_368 : Cond.methodLinkNest "BeaconIndex$Fits" 23 ⟨"BeaconIndex$Match", "<init>", "()V"⟩ "BeaconIndex" ∈ lw_tbl := List.mem_append_right _ (List.mem_of_getElem? (i := 368) (by decide +kernel))
theorem d_Match_init_0 : decode prog_4_method_1_code 0 = .ok (.aload_n 0, 1) := by decide +kernel
theorem d_Match_init_1 : decode prog_4_method_1_code 1 = .ok (.invokespecial 3, 3) := by decide +kernel
theorem w_371 : Cond.methodLink "BeaconIndex$Match" 3 ⟨"java/lang/Object", "<init>", "()V"⟩ ∈ lw_tbl := List.mem_append_right _ (List.mem_of_getElem? (i := 371) (by decide +kernel))
theorem d_Match_init_4 : decode prog_4_method_1_code 4 = .ok (.aload_n 0, 1) := by decide +kernel
theorem d_Match_init_5 : decode prog_4_method_1_code 5 = .ok (.bipush 40, 2) := by decide +kernel
theorem d_Match_init_7 : decode prog_4_method_1_code 7 = .ok (.newarray .long, 2) := by decide +kernel
theorem d_Match_init_9 : decode prog_4_method_1_code 9 = .ok (.putfield 9, 3) := by decide +kernel
theorem d_Match_init_12 : decode prog_4_method_1_code 12 = .ok (.aload_n 0, 1) := by decide +kernel
theorem d_Match_init_13 : decode prog_4_method_1_code 13 = .ok (.bipush 40, 2) := by decide +kernel
theorem d_Match_init_15 : decode prog_4_method_1_code 15 = .ok (.newarray .int, 2) := by decide +kernel
theorem d_Match_init_17 : decode prog_4_method_1_code 17 = .ok (.putfield 15, 3) := by decide +kernel
theorem d_Match_init_20 : decode prog_4_method_1_code 20 = .ok (.aload_n 0, 1) := by decide +kernel
theorem d_Match_init_21 : decode prog_4_method_1_code 21 = .ok (.iconst 0, 1) := by decide +kernel
theorem d_Match_init_22 : decode prog_4_method_1_code 22 = .ok (.putfield 19, 3) := by decide +kernel
theorem d_Match_init_25 : decode prog_4_method_1_code 25 = .ok (.aload_n 0, 1) := by decide +kernel
theorem d_Match_init_26 : decode prog_4_method_1_code 26 = .ok (.iconst 0, 1) := by decide +kernel
theorem d_Match_init_27 : decode prog_4_method_1_code 27 = .ok (.putfield 23, 3) := by decide +kernel
theorem d_Match_init_30 : decode prog_4_method_1_code 30 = .ok (.aload_n 0, 1) := by decide +kernel
theorem d_Match_init_31 : decode prog_4_method_1_code 31 = .ok (.iconst 0, 1) := by decide +kernel
theorem d_Match_init_32 : decode prog_4_method_1_code 32 = .ok (.putfield 26, 3) := by decide +kernel
theorem d_Match_init_35 : decode prog_4_method_1_code 35 = .ok (.aload_n 0, 1) := by decide +kernel
theorem d_Match_init_36 : decode prog_4_method_1_code 36 = .ok (.iconst (-1), 1) := by decide +kernel
theorem d_Match_init_37 : decode prog_4_method_1_code 37 = .ok (.putfield 29, 3) := by decide +kernel
theorem d_Match_init_40 : decode prog_4_method_1_code 40 = .ok (.return_, 1) := by decide +kernel
theorem d_Fits_init_37 : decode prog_3_method_1_code 37 = .ok (.putfield 24, 3) := by decide +kernel
theorem d_Fits_init_40 : decode prog_3_method_1_code 40 = .ok (.return_, 1) := by decide +kernel
theorem d_Findings_init_12 : decode prog_2_method_1_code 12 = .ok (.putfield 12, 3) := by decide +kernel
theorem d_Findings_init_15 : decode prog_2_method_1_code 15 = .ok (.aload_n 0, 1) := by decide +kernel
theorem d_Findings_init_16 : decode prog_2_method_1_code 16 = .ok (.sipush 2400, 3) := by decide +kernel
theorem d_Findings_init_19 : decode prog_2_method_1_code 19 = .ok (.newarray .boolean, 2) := by decide +kernel
theorem w_427 : Cond.arrayClass .boolean ∈ lw_tbl := List.mem_append_right _ (List.mem_of_getElem? (i := 427) (by decide +kernel))
theorem d_Findings_init_21 : decode prog_2_method_1_code 21 = .ok (.putfield 18, 3) := by decide +kernel
theorem d_Findings_init_24 : decode prog_2_method_1_code 24 = .ok (.aload_n 0, 1) := by decide +kernel
theorem d_Findings_init_25 : decode prog_2_method_1_code 25 = .ok (.sipush 2400, 3) := by decide +kernel
theorem d_Findings_init_28 : decode prog_2_method_1_code 28 = .ok (.newarray .int, 2) := by decide +kernel
theorem d_Findings_init_30 : decode prog_2_method_1_code 30 = .ok (.putfield 22, 3) := by decide +kernel
theorem d_Findings_init_33 : decode prog_2_method_1_code 33 = .ok (.aload_n 0, 1) := by decide +kernel
theorem d_Findings_init_34 : decode prog_2_method_1_code 34 = .ok (.bipush 60, 2) := by decide +kernel
theorem d_Findings_init_36 : decode prog_2_method_1_code 36 = .ok (.newarray .int, 2) := by decide +kernel
theorem d_Findings_init_38 : decode prog_2_method_1_code 38 = .ok (.putfield 26, 3) := by decide +kernel
theorem d_Findings_init_41 : decode prog_2_method_1_code 41 = .ok (.aload_n 0, 1) := by decide +kernel
theorem d_Findings_init_42 : decode prog_2_method_1_code 42 = .ok (.bipush 60, 2) := by decide +kernel
theorem d_Findings_init_44 : decode prog_2_method_1_code 44 = .ok (.newarray .int, 2) := by decide +kernel
theorem d_Findings_init_46 : decode prog_2_method_1_code 46 = .ok (.putfield 29, 3) := by decide +kernel
theorem d_Findings_init_49 : decode prog_2_method_1_code 49 = .ok (.aload_n 0, 1) := by decide +kernel
theorem d_Findings_init_50 : decode prog_2_method_1_code 50 = .ok (.iconst 0, 1) := by decide +kernel
theorem d_Findings_init_51 : decode prog_2_method_1_code 51 = .ok (.putfield 32, 3) := by decide +kernel
theorem d_Findings_init_54 : decode prog_2_method_1_code 54 = .ok (.return_, 1) := by decide +kernel
theorem d_B_init_56 : decode prog_1_method_1_code 56 = .ok (.putfield 40, 3) := by decide +kernel
theorem d_B_init_59 : decode prog_1_method_1_code 59 = .ok (.aload_n 0, 1) := by decide +kernel
theorem d_B_init_60 : decode prog_1_method_1_code 60 = .ok (.lconst 0, 1) := by decide +kernel
theorem d_B_init_61 : decode prog_1_method_1_code 61 = .ok (.putfield 44, 3) := by decide +kernel
theorem d_B_init_64 : decode prog_1_method_1_code 64 = .ok (.aload_n 0, 1) := by decide +kernel
theorem d_B_init_65 : decode prog_1_method_1_code 65 = .ok (.new 48, 3) := by decide +kernel
theorem w_428 : Cond.classLink "BeaconIndex" 48 "java/util/ArrayList" ∈ lw_tbl := List.mem_append_right _ (List.mem_of_getElem? (i := 428) (by decide +kernel))
theorem d_B_init_68 : decode prog_1_method_1_code 68 = .ok (.dup, 1) := by decide +kernel
theorem d_B_init_69 : decode prog_1_method_1_code 69 = .ok (.invokespecial 50, 3) := by decide +kernel
theorem w_429 : Cond.methodLink "BeaconIndex" 50 ⟨"java/util/ArrayList", "<init>", "()V"⟩ ∈ lw_tbl := List.mem_append_right _ (List.mem_of_getElem? (i := 429) (by decide +kernel))
theorem d_B_init_72 : decode prog_1_method_1_code 72 = .ok (.putfield 51, 3) := by decide +kernel
theorem d_B_init_75 : decode prog_1_method_1_code 75 = .ok (.return_, 1) := by decide +kernel
theorem d_W_law_7 : decode code 7 = .ok (.astore_n 1, 1) := by decide +kernel
theorem d_W_law_8 : decode code 8 = .ok (.new 105, 3) := by decide +kernel
theorem w_1524 : Cond.classLink "BeaconIndexLaw" 105 "BeaconIndexModel" ∈ lw_tbl := List.mem_append_right _ (List.mem_of_getElem? (i := 1524) (by decide +kernel))
theorem xdf11 : ∀ (G : XG) (k : Nat), k < 38 → defaultValue (xT11 k) = xcv G (xfty 11 k, xdef 11 (k : Int)) := fun G k hk => by
  match k, hk with
  | 0, _ => rfl
  | 1, _ => rfl
  | 2, _ => rfl
  | 3, _ => rfl
  | 4, _ => rfl
  | 5, _ => rfl
  | 6, _ => rfl
  | 7, _ => rfl
  | 8, _ => rfl
  | 9, _ => rfl
  | 10, _ => rfl
  | 11, _ => rfl
  | 12, _ => rfl
  | 13, _ => rfl
  | 14, _ => rfl
  | 15, _ => rfl
  | 16, _ => rfl
  | 17, _ => rfl
  | 18, _ => rfl
  | 19, _ => rfl
  | 20, _ => rfl
  | 21, _ => rfl
  | 22, _ => rfl
  | 23, _ => rfl
  | 24, _ => rfl
  | 25, _ => rfl
  | 26, _ => rfl
  | 27, _ => rfl
  | 28, _ => rfl
  | 29, _ => rfl
  | 30, _ => rfl
  | 31, _ => rfl
  | 32, _ => rfl
  | 33, _ => rfl
  | 34, _ => rfl
  | 35, _ => rfl
  | 36, _ => rfl
  | 37, _ => rfl
  | n + 38, hk => exact absurd hk (by omega)
theorem xd711 : ∀ k, k < 38 → xfty 11 k < 7 := by decide +kernel
theorem d_W_law_11 : decode code 11 = .ok (.dup, 1) := by decide +kernel
theorem d_W_law_12 : decode code 12 = .ok (.invokespecial 107, 3) := by decide +kernel
theorem k_M_init : xCal m_M_init 0 := ⟨List.mem_append_right _ (List.mem_of_getElem? (i := 1528) (by decide +kernel)), w_15, Nat.le_of_ble_eq_true rfl, ⟨by decide +kernel, by decide +kernel⟩, by decide +kernel, by decide +kernel, rfl⟩
theorem w_1527 : Cond.instanceMethod ⟨"BeaconIndexModel", "<init>", "()V"⟩ ∈ lw_tbl := List.mem_append_right _ (List.mem_of_getElem? (i := 1527) (by decide +kernel))
theorem w_1526 : Cond.methodLink "BeaconIndexLaw" 107 ⟨"BeaconIndexModel", "<init>", "()V"⟩ ∈ lw_tbl := List.mem_append_right _ (List.mem_of_getElem? (i := 1526) (by decide +kernel))
theorem d_M_init_0 : decode prog_14_method_1_code 0 = .ok (.aload_n 0, 1) := by decide +kernel
theorem d_M_init_1 : decode prog_14_method_1_code 1 = .ok (.invokespecial 1, 3) := by decide +kernel
theorem w_1529 : Cond.methodLink "BeaconIndexModel" 1 ⟨"java/lang/Object", "<init>", "()V"⟩ ∈ lw_tbl := List.mem_append_right _ (List.mem_of_getElem? (i := 1529) (by decide +kernel))
theorem d_M_init_4 : decode prog_14_method_1_code 4 = .ok (.aload_n 0, 1) := by decide +kernel
theorem d_M_init_5 : decode prog_14_method_1_code 5 = .ok (.sipush 400, 3) := by decide +kernel
theorem d_M_init_8 : decode prog_14_method_1_code 8 = .ok (.newarray .int, 2) := by decide +kernel
theorem d_M_init_10 : decode prog_14_method_1_code 10 = .ok (.putfield 9, 3) := by decide +kernel
theorem d_M_init_13 : decode prog_14_method_1_code 13 = .ok (.aload_n 0, 1) := by decide +kernel
theorem d_M_init_14 : decode prog_14_method_1_code 14 = .ok (.bipush 60, 2) := by decide +kernel
theorem d_M_init_16 : decode prog_14_method_1_code 16 = .ok (.newarray .int, 2) := by decide +kernel
theorem d_M_init_18 : decode prog_14_method_1_code 18 = .ok (.putfield 13, 3) := by decide +kernel
theorem d_M_init_21 : decode prog_14_method_1_code 21 = .ok (.aload_n 0, 1) := by decide +kernel
theorem d_M_init_22 : decode prog_14_method_1_code 22 = .ok (.bipush 60, 2) := by decide +kernel
theorem d_M_init_24 : decode prog_14_method_1_code 24 = .ok (.newarray .int, 2) := by decide +kernel
theorem d_M_init_26 : decode prog_14_method_1_code 26 = .ok (.putfield 16, 3) := by decide +kernel
theorem d_M_init_29 : decode prog_14_method_1_code 29 = .ok (.aload_n 0, 1) := by decide +kernel
theorem d_M_init_30 : decode prog_14_method_1_code 30 = .ok (.bipush 60, 2) := by decide +kernel
theorem d_M_init_32 : decode prog_14_method_1_code 32 = .ok (.newarray .int, 2) := by decide +kernel
theorem d_M_init_34 : decode prog_14_method_1_code 34 = .ok (.putfield 19, 3) := by decide +kernel
theorem d_M_init_37 : decode prog_14_method_1_code 37 = .ok (.aload_n 0, 1) := by decide +kernel
theorem d_M_init_38 : decode prog_14_method_1_code 38 = .ok (.bipush 60, 2) := by decide +kernel
theorem d_M_init_40 : decode prog_14_method_1_code 40 = .ok (.newarray .int, 2) := by decide +kernel
theorem d_M_init_42 : decode prog_14_method_1_code 42 = .ok (.putfield 22, 3) := by decide +kernel
theorem d_M_init_45 : decode prog_14_method_1_code 45 = .ok (.aload_n 0, 1) := by decide +kernel
theorem d_M_init_46 : decode prog_14_method_1_code 46 = .ok (.bipush 60, 2) := by decide +kernel
theorem d_M_init_48 : decode prog_14_method_1_code 48 = .ok (.newarray .int, 2) := by decide +kernel
theorem d_M_init_50 : decode prog_14_method_1_code 50 = .ok (.putfield 25, 3) := by decide +kernel
theorem d_M_init_53 : decode prog_14_method_1_code 53 = .ok (.aload_n 0, 1) := by decide +kernel
theorem d_M_init_54 : decode prog_14_method_1_code 54 = .ok (.bipush 60, 2) := by decide +kernel
theorem d_M_init_56 : decode prog_14_method_1_code 56 = .ok (.newarray .boolean, 2) := by decide +kernel
theorem d_M_init_58 : decode prog_14_method_1_code 58 = .ok (.putfield 28, 3) := by decide +kernel
theorem d_M_init_61 : decode prog_14_method_1_code 61 = .ok (.aload_n 0, 1) := by decide +kernel
theorem d_M_init_62 : decode prog_14_method_1_code 62 = .ok (.bipush 120, 2) := by decide +kernel
theorem d_M_init_64 : decode prog_14_method_1_code 64 = .ok (.newarray .int, 2) := by decide +kernel
theorem d_M_init_66 : decode prog_14_method_1_code 66 = .ok (.putfield 32, 3) := by decide +kernel
theorem d_M_init_69 : decode prog_14_method_1_code 69 = .ok (.aload_n 0, 1) := by decide +kernel
theorem d_M_init_70 : decode prog_14_method_1_code 70 = .ok (.sipush 12000, 3) := by decide +kernel
theorem d_M_init_73 : decode prog_14_method_1_code 73 = .ok (.newarray .long, 2) := by decide +kernel
theorem d_M_init_75 : decode prog_14_method_1_code 75 = .ok (.putfield 35, 3) := by decide +kernel
theorem d_M_init_78 : decode prog_14_method_1_code 78 = .ok (.aload_n 0, 1) := by decide +kernel
theorem d_M_init_79 : decode prog_14_method_1_code 79 = .ok (.bipush 12, 2) := by decide +kernel
theorem d_M_init_81 : decode prog_14_method_1_code 81 = .ok (.newarray .int, 2) := by decide +kernel
theorem d_M_init_83 : decode prog_14_method_1_code 83 = .ok (.putfield 39, 3) := by decide +kernel
theorem d_M_init_86 : decode prog_14_method_1_code 86 = .ok (.aload_n 0, 1) := by decide +kernel
theorem d_M_init_87 : decode prog_14_method_1_code 87 = .ok (.sipush 12000, 3) := by decide +kernel
theorem d_M_init_90 : decode prog_14_method_1_code 90 = .ok (.newarray .long, 2) := by decide +kernel
theorem d_M_init_92 : decode prog_14_method_1_code 92 = .ok (.putfield 42, 3) := by decide +kernel
theorem d_M_init_95 : decode prog_14_method_1_code 95 = .ok (.aload_n 0, 1) := by decide +kernel
theorem d_M_init_96 : decode prog_14_method_1_code 96 = .ok (.sipush 169, 3) := by decide +kernel
theorem d_M_init_99 : decode prog_14_method_1_code 99 = .ok (.newarray .int, 2) := by decide +kernel
theorem d_M_init_101 : decode prog_14_method_1_code 101 = .ok (.putfield 45, 3) := by decide +kernel
theorem d_M_init_104 : decode prog_14_method_1_code 104 = .ok (.aload_n 0, 1) := by decide +kernel
theorem d_M_init_105 : decode prog_14_method_1_code 105 = .ok (.new 48, 3) := by decide +kernel
theorem d_M_init_108 : decode prog_14_method_1_code 108 = .ok (.dup, 1) := by decide +kernel
theorem d_M_init_109 : decode prog_14_method_1_code 109 = .ok (.invokespecial 50, 3) := by decide +kernel
theorem d_M_init_112 : decode prog_14_method_1_code 112 = .ok (.putfield 51, 3) := by decide +kernel
theorem d_M_init_115 : decode prog_14_method_1_code 115 = .ok (.aload_n 0, 1) := by decide +kernel
theorem d_M_init_116 : decode prog_14_method_1_code 116 = .ok (.aload_n 0, 1) := by decide +kernel
theorem d_M_init_117 : decode prog_14_method_1_code 117 = .ok (.getfield 51, 3) := by decide +kernel
theorem d_M_init_120 : decode prog_14_method_1_code 120 = .ok (.putfield 55, 3) := by decide +kernel
theorem d_M_init_123 : decode prog_14_method_1_code 123 = .ok (.aload_n 0, 1) := by decide +kernel
theorem d_M_init_124 : decode prog_14_method_1_code 124 = .ok (.bipush 41, 2) := by decide +kernel
theorem d_M_init_126 : decode prog_14_method_1_code 126 = .ok (.newarray .int, 2) := by decide +kernel
theorem d_M_init_128 : decode prog_14_method_1_code 128 = .ok (.putfield 58, 3) := by decide +kernel
theorem d_M_init_131 : decode prog_14_method_1_code 131 = .ok (.aload_n 0, 1) := by decide +kernel
theorem d_M_init_132 : decode prog_14_method_1_code 132 = .ok (.bipush 41, 2) := by decide +kernel
theorem d_M_init_134 : decode prog_14_method_1_code 134 = .ok (.newarray .int, 2) := by decide +kernel
theorem d_M_init_136 : decode prog_14_method_1_code 136 = .ok (.putfield 61, 3) := by decide +kernel
theorem d_M_init_139 : decode prog_14_method_1_code 139 = .ok (.aload_n 0, 1) := by decide +kernel
theorem d_M_init_140 : decode prog_14_method_1_code 140 = .ok (.bipush 41, 2) := by decide +kernel
theorem d_M_init_142 : decode prog_14_method_1_code 142 = .ok (.newarray .int, 2) := by decide +kernel
theorem d_M_init_144 : decode prog_14_method_1_code 144 = .ok (.putfield 64, 3) := by decide +kernel
theorem d_M_init_147 : decode prog_14_method_1_code 147 = .ok (.aload_n 0, 1) := by decide +kernel
theorem d_M_init_148 : decode prog_14_method_1_code 148 = .ok (.sipush 4920, 3) := by decide +kernel
theorem d_M_init_151 : decode prog_14_method_1_code 151 = .ok (.newarray .int, 2) := by decide +kernel
theorem d_M_init_153 : decode prog_14_method_1_code 153 = .ok (.putfield 67, 3) := by decide +kernel
theorem d_M_init_156 : decode prog_14_method_1_code 156 = .ok (.aload_n 0, 1) := by decide +kernel
theorem d_M_init_157 : decode prog_14_method_1_code 157 = .ok (.sipush 4920, 3) := by decide +kernel
theorem d_M_init_160 : decode prog_14_method_1_code 160 = .ok (.newarray .int, 2) := by decide +kernel
theorem d_M_init_162 : decode prog_14_method_1_code 162 = .ok (.putfield 70, 3) := by decide +kernel
theorem d_M_init_165 : decode prog_14_method_1_code 165 = .ok (.aload_n 0, 1) := by decide +kernel
theorem d_M_init_166 : decode prog_14_method_1_code 166 = .ok (.bipush 82, 2) := by decide +kernel
theorem d_M_init_168 : decode prog_14_method_1_code 168 = .ok (.newarray .int, 2) := by decide +kernel
theorem d_M_init_170 : decode prog_14_method_1_code 170 = .ok (.putfield 73, 3) := by decide +kernel
theorem d_M_init_173 : decode prog_14_method_1_code 173 = .ok (.aload_n 0, 1) := by decide +kernel
theorem d_M_init_174 : decode prog_14_method_1_code 174 = .ok (.iconst 2, 1) := by decide +kernel
theorem d_M_init_175 : decode prog_14_method_1_code 175 = .ok (.newarray .int, 2) := by decide +kernel
theorem d_M_init_177 : decode prog_14_method_1_code 177 = .ok (.putfield 76, 3) := by decide +kernel
theorem d_M_init_180 : decode prog_14_method_1_code 180 = .ok (.aload_n 0, 1) := by decide +kernel
theorem d_M_init_181 : decode prog_14_method_1_code 181 = .ok (.bipush 41, 2) := by decide +kernel
theorem d_M_init_183 : decode prog_14_method_1_code 183 = .ok (.newarray .boolean, 2) := by decide +kernel
theorem d_M_init_185 : decode prog_14_method_1_code 185 = .ok (.putfield 79, 3) := by decide +kernel
theorem d_M_init_188 : decode prog_14_method_1_code 188 = .ok (.aload_n 0, 1) := by decide +kernel
theorem d_M_init_189 : decode prog_14_method_1_code 189 = .ok (.bipush 41, 2) := by decide +kernel
theorem d_M_init_191 : decode prog_14_method_1_code 191 = .ok (.newarray .int, 2) := by decide +kernel
theorem d_M_init_193 : decode prog_14_method_1_code 193 = .ok (.putfield 82, 3) := by decide +kernel
theorem d_M_init_196 : decode prog_14_method_1_code 196 = .ok (.aload_n 0, 1) := by decide +kernel
theorem d_M_init_197 : decode prog_14_method_1_code 197 = .ok (.bipush 40, 2) := by decide +kernel
theorem d_M_init_199 : decode prog_14_method_1_code 199 = .ok (.newarray .int, 2) := by decide +kernel
theorem d_M_init_201 : decode prog_14_method_1_code 201 = .ok (.putfield 85, 3) := by decide +kernel
theorem d_M_init_204 : decode prog_14_method_1_code 204 = .ok (.aload_n 0, 1) := by decide +kernel
theorem d_M_init_205 : decode prog_14_method_1_code 205 = .ok (.bipush 40, 2) := by decide +kernel
theorem d_M_init_207 : decode prog_14_method_1_code 207 = .ok (.newarray .int, 2) := by decide +kernel
theorem d_M_init_209 : decode prog_14_method_1_code 209 = .ok (.putfield 88, 3) := by decide +kernel
theorem d_M_init_212 : decode prog_14_method_1_code 212 = .ok (.aload_n 0, 1) := by decide +kernel
theorem d_M_init_213 : decode prog_14_method_1_code 213 = .ok (.bipush 60, 2) := by decide +kernel
theorem d_M_init_215 : decode prog_14_method_1_code 215 = .ok (.newarray .int, 2) := by decide +kernel
theorem d_M_init_217 : decode prog_14_method_1_code 217 = .ok (.putfield 91, 3) := by decide +kernel
theorem d_M_init_220 : decode prog_14_method_1_code 220 = .ok (.aload_n 0, 1) := by decide +kernel
theorem d_M_init_221 : decode prog_14_method_1_code 221 = .ok (.bipush 60, 2) := by decide +kernel
theorem d_M_init_223 : decode prog_14_method_1_code 223 = .ok (.newarray .int, 2) := by decide +kernel
theorem d_M_init_225 : decode prog_14_method_1_code 225 = .ok (.putfield 94, 3) := by decide +kernel
theorem d_M_init_228 : decode prog_14_method_1_code 228 = .ok (.iconst 0, 1) := by decide +kernel
theorem d_M_init_229 : decode prog_14_method_1_code 229 = .ok (.istore_n 1, 1) := by decide +kernel
theorem d_W_law_15 : decode code 15 = .ok (.astore_n 2, 1) := by decide +kernel
theorem d_W_law_16 : decode code 16 = .ok (.iconst 1, 1) := by decide +kernel
theorem d_W_law_17 : decode code 17 = .ok (.newarray .long, 2) := by decide +kernel
theorem d_W_law_19 : decode code 19 = .ok (.astore_n 3, 1) := by decide +kernel
theorem d_W_law_20 : decode code 20 = .ok (.iconst 1, 1) := by decide +kernel
theorem d_W_law_21 : decode code 21 = .ok (.newarray .double, 2) := by decide +kernel
theorem w_2496 : Cond.arrayClass .double ∈ lw_tbl := List.mem_append_right _ (List.mem_of_getElem? (i := 2496) (by decide +kernel))
theorem d_W_law_23 : decode code 23 = .ok (.astore 4, 2) := by decide +kernel
theorem d_W_law_25 : decode code 25 = .ok (.iconst 0, 1) := by decide +kernel
theorem d_W_law_26 : decode code 26 = .ok (.istore 5, 2) := by decide +kernel
def xK1 : XH := xmkn xK0 0 0 7 (xdef 0)
def xK2 : XH := xmkn xK1 1 8 7 (xdef 8)
def xK3 : XH := xmkn xK2 2 100 400 (fun _ => 0)
def xK4 : XH := xmkn (xst xK3 1 0 2) 3 101 200 (fun _ => 0)
def xK5 : XH := xmkn (xst xK4 1 1 3) 4 100 12 (fun _ => 0)
def xK6 : XH := xst (xst (xst (xst (xst xK5 1 2 4) 1 3 0) 1 4 0) 1 5 0) 1 6 0
theorem cs_1 {G : XG} {d : Nat} {Q : XV → XH → Prop} {X : Nat → XH → Prop} (q : Q xN xK6) : xwp G m_Tape_init (d + 218) 0 [xR 1] [] xK2 Q X := by
  refine xr_aload_n (pc := 0) (i := 0) (hI := d_Tape_init_0) (hi := rfl) (hl := rfl) ?_
  refine xr_objInit (pc := 1) (hI := d_Tape_init_1) w_53 w_46 w_objc (by decide) (Nat.le_add_left_of_le (by decide)) (Nat.le_of_ble_eq_true rfl) ?_
  refine xr_aload_n (pc := 4) (i := 0) (hI := d_Tape_init_4) (hi := rfl) (hl := rfl) ?_
  refine xr_sipush (pc := 5) (hI := d_Tape_init_5) (hr := by decide) (hv := by decide) ?_
  refine xn_newarray (pc := 8) (A := 2) (t := 100) (hI := d_Tape_init_8) rfl w_79 rfl (Nat.le_of_ble_eq_true rfl) (Nat.le_of_ble_eq_true rfl) (by decide) (fun _ => rfl) (xok_z rfl) (by decide) (by decide) (by decide +kernel) (by decide +kernel) (by decide +kernel) ?_
  show xwp G m_Tape_init (d + 218) 10 [xR 1] [xR 2, xR 1] xK3 _ _
  refine xr_putfF (pc := 10) (ci := 8) (k := 0) (N := 7) (v9 := 2) (T := xF8) (tF := xT8) (hI := d_Tape_init_10) (hw := w_54) rfl xi8 xt8 xn8 (Or.inl rfl) (Nat.le_of_ble_eq_true rfl) (Nat.le_of_ble_eq_true rfl) rfl (xfit_a _) rfl rfl rfl (by decide +kernel) (by decide) (fun z => z) ?_
  refine xr_aload_n (pc := 13) (i := 0) (hI := d_Tape_init_13) (hi := rfl) (hl := rfl) ?_
  refine xr_sipush (pc := 14) (hI := d_Tape_init_14) (hr := by decide) (hv := by decide) ?_
  refine xn_newarray (pc := 17) (A := 3) (t := 101) (hI := d_Tape_init_17) rfl w_80 rfl (Nat.le_of_ble_eq_true rfl) (Nat.le_of_ble_eq_true rfl) (by decide) (fun _ => rfl) (xok_z rfl) (by decide) (by decide) (by decide +kernel) (by decide +kernel) (by decide +kernel) ?_
  show xwp G m_Tape_init (d + 218) 19 [xR 1] [xR 3, xR 1] xK4 _ _
  refine xr_putfF (pc := 19) (ci := 8) (k := 1) (N := 7) (v9 := 2) (T := xF8) (tF := xT8) (hI := d_Tape_init_19) (hw := w_55) rfl xi8 xt8 xn8 (Or.inl rfl) (Nat.le_of_ble_eq_true rfl) (Nat.le_of_ble_eq_true rfl) rfl (xfit_a _) rfl rfl rfl (by decide +kernel) (by decide) (fun z => z) ?_
  refine xr_aload_n (pc := 22) (i := 0) (hI := d_Tape_init_22) (hi := rfl) (hl := rfl) ?_
  refine xr_bipush (pc := 23) (hI := d_Tape_init_23) (hr := by decide) (hv := by decide) ?_
  refine xn_newarray (pc := 25) (A := 4) (t := 100) (hI := d_Tape_init_25) rfl w_79 rfl (Nat.le_of_ble_eq_true rfl) (Nat.le_of_ble_eq_true rfl) (by decide) (fun _ => rfl) (xok_z rfl) (by decide) (by decide) (by decide +kernel) (by decide +kernel) (by decide +kernel) ?_
  show xwp G m_Tape_init (d + 218) 27 [xR 1] [xR 4, xR 1] xK5 _ _
  refine xr_putfF (pc := 27) (ci := 8) (k := 2) (N := 7) (v9 := 2) (T := xF8) (tF := xT8) (hI := d_Tape_init_27) (hw := w_56) rfl xi8 xt8 xn8 (Or.inl rfl) (Nat.le_of_ble_eq_true rfl) (Nat.le_of_ble_eq_true rfl) rfl (xfit_a _) rfl rfl rfl (by decide +kernel) (by decide) (fun z => z) ?_
  refine xr_aload_n (pc := 30) (i := 0) (hI := d_Tape_init_30) (hi := rfl) (hl := rfl) ?_
  refine xr_iconst (pc := 31) (hI := d_Tape_init_31) (hr := by decide) ?_
  refine xr_putf (pc := 32) (ci := 8) (k := 3) (N := 7) (v9 := 0) (T := xF8) (tF := xT8) (hI := d_Tape_init_32) (hw := w_57) rfl xi8 xt8 xn8 (Or.inl rfl) (Nat.le_of_ble_eq_true rfl) (Nat.le_of_ble_eq_true rfl) rfl xfit_i rfl (by decide +kernel) (by decide) (fun z => z) ?_
  refine xr_aload_n (pc := 35) (i := 0) (hI := d_Tape_init_35) (hi := rfl) (hl := rfl) ?_
  refine xr_iconst (pc := 36) (hI := d_Tape_init_36) (hr := by decide) ?_
  refine xr_putf (pc := 37) (ci := 8) (k := 4) (N := 7) (v9 := 0) (T := xF8) (tF := xT8) (hI := d_Tape_init_37) (hw := w_60) rfl xi8 xt8 xn8 (Or.inl rfl) (Nat.le_of_ble_eq_true rfl) (Nat.le_of_ble_eq_true rfl) rfl xfit_i rfl (by decide +kernel) (by decide) (fun z => z) ?_
  refine xr_aload_n (pc := 40) (i := 0) (hI := d_Tape_init_40) (hi := rfl) (hl := rfl) ?_
  refine xr_iconst (pc := 41) (hI := d_Tape_init_41) (hr := by decide) ?_
  refine xr_putf (pc := 42) (ci := 8) (k := 5) (N := 7) (v9 := 0) (T := xF8) (tF := xT8) (hI := d_Tape_init_42) (hw := w_61) rfl xi8 xt8 xn8 (Or.inl rfl) (Nat.le_of_ble_eq_true rfl) (Nat.le_of_ble_eq_true rfl) rfl xfit_i rfl (by decide +kernel) (by decide) (fun z => z) ?_
  refine xr_aload_n (pc := 45) (i := 0) (hI := d_Tape_init_45) (hi := rfl) (hl := rfl) ?_
  refine xr_iconst (pc := 46) (hI := d_Tape_init_46) (hr := by decide) ?_
  refine xr_putf (pc := 47) (ci := 8) (k := 6) (N := 7) (v9 := 0) (T := xF8) (tF := xT8) (hI := d_Tape_init_47) (hw := w_63) rfl xi8 xt8 xn8 (Or.inl rfl) (Nat.le_of_ble_eq_true rfl) (Nat.le_of_ble_eq_true rfl) rfl xfit_i rfl (by decide +kernel) (by decide) (fun z => z) ?_
  show xwp G m_Tape_init (d + 218) 50 [xR 1] [] xK6 _ _
  refine xr_return (S := []) (pc := 50) (hI := d_Tape_init_50) (hr := rfl) ?_
  exact q
def xK7 : XH := xmkn (xst xK6 0 0 1) 5 7 6 (xdef 7)
def xK8 : XH := xmkn xK7 6 13 3 (xdef 13)
theorem cs_2 {G : XG} {d : Nat} {Q : XV → XH → Prop} {X : Nat → XH → Prop} (q : Q xN xK8) : xwp G m_AbstractCollection_init (d + 215) 0 [xR 6] [] xK8 Q X := by
  refine xr_aload_n (pc := 0) (i := 0) (hI := d_AbstractCollection_init_0) (hi := rfl) (hl := rfl) ?_
  refine xr_objInit (pc := 1) (hI := d_AbstractCollection_init_1) w_98 w_46 w_objc (by decide) (Nat.le_add_left_of_le (by decide)) (Nat.le_of_ble_eq_true rfl) ?_
  refine xr_return (S := []) (pc := 4) (hI := d_AbstractCollection_init_4) (hr := rfl) ?_
  exact q
def xK9 : XH := xst xK8 6 2 0
theorem cs_3 {G : XG} {d : Nat} {Q : XV → XH → Prop} {X : Nat → XH → Prop} (q : Q xN xK9) : xwp G m_AbstractList_init (d + 216) 0 [xR 6] [] xK8 Q X := by
  refine xr_aload_n (pc := 0) (i := 0) (hI := d_AbstractList_init_0) (hi := rfl) (hl := rfl) ?_
  refine xq_callI (pc := 1) (index := 1) (K := m_AbstractCollection_init) (As := []) (S := []) (L0 := [xR 6]) (hI := d_AbstractList_init_1) (hK := k_AbstractCollection_init) (hlk := w_95) (hnoM := rfl) (hS8 := Nat.le_of_ble_eq_true rfl) (hb0 := by decide) (hinst := w_96) (hname := rfl) (hret := rfl) (hlen := Nat.le_of_ble_eq_true rfl) (hst := rfl) (hL0 := rfl) ?_
  refine cs_2 ?_
  show xwp G m_AbstractList_init (d + 216) 4 [xR 6] [] _ _ _
  refine xr_aload_n (pc := 4) (i := 0) (hI := d_AbstractList_init_4) (hi := rfl) (hl := rfl) ?_
  refine xr_iconst (pc := 5) (hI := d_AbstractList_init_5) (hr := by decide) ?_
  refine xr_putf (pc := 6) (ci := 13) (k := 2) (N := 3) (v9 := 0) (T := xF13) (tF := xT13) (hI := d_AbstractList_init_6) (hw := w_103) rfl xi13 xt13 xn13 (Or.inl rfl) (Nat.le_of_ble_eq_true rfl) (Nat.le_of_ble_eq_true rfl) rfl xfit_i rfl (by decide +kernel) (by decide) (fun z => z) ?_
  show xwp G m_AbstractList_init (d + 216) 9 [xR 6] [] xK9 _ _
  refine xr_return (S := []) (pc := 9) (hI := d_AbstractList_init_9) (hr := rfl) ?_
  exact q
def xK10 : XH := xst xK9 6 0 (-103)
theorem cs_4 {G : XG} {d : Nat} {Q : XV → XH → Prop} {X : Nat → XH → Prop} (q : Q xN xK10) : xwp G m_ArrayList_init (d + 217) 0 [xR 6] [] xK8 Q X := by
  refine xr_aload_n (pc := 0) (i := 0) (hI := d_ArrayList_init_0) (hi := rfl) (hl := rfl) ?_
  refine xq_callI (pc := 1) (index := 1) (K := m_AbstractList_init) (As := []) (S := []) (L0 := [xR 6]) (hI := d_ArrayList_init_1) (hK := k_AbstractList_init) (hlk := w_92) (hnoM := rfl) (hS8 := Nat.le_of_ble_eq_true rfl) (hb0 := by decide) (hinst := w_93) (hname := rfl) (hret := rfl) (hlen := Nat.le_of_ble_eq_true rfl) (hst := rfl) (hL0 := rfl) ?_
  refine cs_3 ?_
  show xwp G m_ArrayList_init (d + 217) 4 [xR 6] [] _ _ _
  refine xr_aload_n (pc := 4) (i := 0) (hI := d_ArrayList_init_4) (hi := rfl) (hl := rfl) ?_
  refine xr_getstatic (pc := 5) (v := xR (-103)) (hI := d_ArrayList_init_5) w_99 (by decide +kernel) (by exact trivial) ?_
  refine xr_putf (pc := 8) (ci := 13) (k := 0) (N := 3) (v9 := 2) (T := xF13) (tF := xT13) (hI := d_ArrayList_init_8) (hw := w_101) rfl xi13 xt13 xn13 (Or.inl rfl) (Nat.le_of_ble_eq_true rfl) (Nat.le_of_ble_eq_true rfl) rfl (xfit_a _) rfl (by decide +kernel) (by decide) (fun z => z) ?_
  show xwp G m_ArrayList_init (d + 217) 11 [xR 6] [] xK10 _ _
  refine xr_return (S := []) (pc := 11) (hI := d_ArrayList_init_11) (hr := rfl) ?_
  exact q
def xK11 : XH := xmkn (xst xK10 5 0 6) 7 13 3 (xdef 13)
theorem cs_5 {G : XG} {d : Nat} {Q : XV → XH → Prop} {X : Nat → XH → Prop} (q : Q xN xK11) : xwp G m_AbstractCollection_init (d + 215) 0 [xR 7] [] xK11 Q X := by
  refine xr_aload_n (pc := 0) (i := 0) (hI := d_AbstractCollection_init_0) (hi := rfl) (hl := rfl) ?_
  refine xr_objInit (pc := 1) (hI := d_AbstractCollection_init_1) w_98 w_46 w_objc (by decide) (Nat.le_add_left_of_le (by decide)) (Nat.le_of_ble_eq_true rfl) ?_
  refine xr_return (S := []) (pc := 4) (hI := d_AbstractCollection_init_4) (hr := rfl) ?_
  exact q
def xK12 : XH := xst xK11 7 2 0
theorem cs_6 {G : XG} {d : Nat} {Q : XV → XH → Prop} {X : Nat → XH → Prop} (q : Q xN xK12) : xwp G m_AbstractList_init (d + 216) 0 [xR 7] [] xK11 Q X := by
  refine xr_aload_n (pc := 0) (i := 0) (hI := d_AbstractList_init_0) (hi := rfl) (hl := rfl) ?_
  refine xq_callI (pc := 1) (index := 1) (K := m_AbstractCollection_init) (As := []) (S := []) (L0 := [xR 7]) (hI := d_AbstractList_init_1) (hK := k_AbstractCollection_init) (hlk := w_95) (hnoM := rfl) (hS8 := Nat.le_of_ble_eq_true rfl) (hb0 := by decide) (hinst := w_96) (hname := rfl) (hret := rfl) (hlen := Nat.le_of_ble_eq_true rfl) (hst := rfl) (hL0 := rfl) ?_
  refine cs_5 ?_
  show xwp G m_AbstractList_init (d + 216) 4 [xR 7] [] _ _ _
  refine xr_aload_n (pc := 4) (i := 0) (hI := d_AbstractList_init_4) (hi := rfl) (hl := rfl) ?_
  refine xr_iconst (pc := 5) (hI := d_AbstractList_init_5) (hr := by decide) ?_
  refine xr_putf (pc := 6) (ci := 13) (k := 2) (N := 3) (v9 := 0) (T := xF13) (tF := xT13) (hI := d_AbstractList_init_6) (hw := w_103) rfl xi13 xt13 xn13 (Or.inl rfl) (Nat.le_of_ble_eq_true rfl) (Nat.le_of_ble_eq_true rfl) rfl xfit_i rfl (by decide +kernel) (by decide) (fun z => z) ?_
  show xwp G m_AbstractList_init (d + 216) 9 [xR 7] [] xK12 _ _
  refine xr_return (S := []) (pc := 9) (hI := d_AbstractList_init_9) (hr := rfl) ?_
  exact q
def xK13 : XH := xst xK12 7 0 (-103)
theorem cs_7 {G : XG} {d : Nat} {Q : XV → XH → Prop} {X : Nat → XH → Prop} (q : Q xN xK13) : xwp G m_ArrayList_init (d + 217) 0 [xR 7] [] xK11 Q X := by
  refine xr_aload_n (pc := 0) (i := 0) (hI := d_ArrayList_init_0) (hi := rfl) (hl := rfl) ?_
  refine xq_callI (pc := 1) (index := 1) (K := m_AbstractList_init) (As := []) (S := []) (L0 := [xR 7]) (hI := d_ArrayList_init_1) (hK := k_AbstractList_init) (hlk := w_92) (hnoM := rfl) (hS8 := Nat.le_of_ble_eq_true rfl) (hb0 := by decide) (hinst := w_93) (hname := rfl) (hret := rfl) (hlen := Nat.le_of_ble_eq_true rfl) (hst := rfl) (hL0 := rfl) ?_
  refine cs_6 ?_
  show xwp G m_ArrayList_init (d + 217) 4 [xR 7] [] _ _ _
  refine xr_aload_n (pc := 4) (i := 0) (hI := d_ArrayList_init_4) (hi := rfl) (hl := rfl) ?_
  refine xr_getstatic (pc := 5) (v := xR (-103)) (hI := d_ArrayList_init_5) w_99 (by decide +kernel) (by exact trivial) ?_
  refine xr_putf (pc := 8) (ci := 13) (k := 0) (N := 3) (v9 := 2) (T := xF13) (tF := xT13) (hI := d_ArrayList_init_8) (hw := w_101) rfl xi13 xt13 xn13 (Or.inl rfl) (Nat.le_of_ble_eq_true rfl) (Nat.le_of_ble_eq_true rfl) rfl (xfit_a _) rfl (by decide +kernel) (by decide) (fun z => z) ?_
  show xwp G m_ArrayList_init (d + 217) 11 [xR 7] [] xK13 _ _
  refine xr_return (S := []) (pc := 11) (hI := d_ArrayList_init_11) (hr := rfl) ?_
  exact q
def xK14 : XH := xmkn (xst xK13 5 1 7) 8 100 60 (fun _ => 0)
def xK15 : XH := xmkn (xst xK14 5 2 8) 9 9 6 (xdef 9)
def xK16 : XH := xmkn xK15 10 101 0 (fun _ => 0)
def xK17 : XH := xmkn xK16 11 101 0 (fun _ => 0)
def xK18 : XH := xst (xst (xst (xst (xst (xst xK17 9 5 0) 9 0 0) 9 1 0) 9 2 0) 9 3 10) 9 4 11
theorem cs_8 {G : XG} {d : Nat} {Q : XV → XH → Prop} {X : Nat → XH → Prop} (q : Q xN xK18) : xwp G m_Text_init (d + 217) 0 [xR 9, xI 0, xI 0, xI 0, xR 10, xR 11] [] xK17 Q X := by
  refine xr_aload_n (pc := 0) (i := 0) (hI := d_Text_init_0) (hi := rfl) (hl := rfl) ?_
  refine xr_objInit (pc := 1) (hI := d_Text_init_1) w_118 w_46 w_objc (by decide) (Nat.le_add_left_of_le (by decide)) (Nat.le_of_ble_eq_true rfl) ?_
  refine xr_aload_n (pc := 4) (i := 0) (hI := d_Text_init_4) (hi := rfl) (hl := rfl) ?_
  refine xr_iconst (pc := 5) (hI := d_Text_init_5) (hr := by decide) ?_
  refine xr_putf (pc := 6) (ci := 9) (k := 5) (N := 6) (v9 := 0) (T := xF9) (tF := xT9) (hI := d_Text_init_6) (hw := w_131) rfl xi9 xt9 xn9 (Or.inl rfl) (Nat.le_of_ble_eq_true rfl) (Nat.le_of_ble_eq_true rfl) rfl xfit_z rfl (by decide +kernel) (by decide) (fun _ => (by decide : (0 : Int) ≤ 0 ∧ (0 : Int) ≤ 1)) ?_
  refine xr_aload_n (pc := 9) (i := 0) (hI := d_Text_init_9) (hi := rfl) (hl := rfl) ?_
  refine xr_iload_n (pc := 10) (i := 1) (hI := d_Text_init_10) (hi := rfl) (hl := rfl) ?_
  refine xr_putfF (pc := 11) (ci := 9) (k := 0) (N := 6) (v9 := 0) (T := xF9) (tF := xT9) (hI := d_Text_init_11) (hw := w_119) rfl xi9 xt9 xn9 (Or.inl rfl) (Nat.le_of_ble_eq_true rfl) (Nat.le_of_ble_eq_true rfl) rfl xfit_i rfl rfl rfl (by decide +kernel) (by decide) (fun z => z) ?_
  refine xr_aload_n (pc := 14) (i := 0) (hI := d_Text_init_14) (hi := rfl) (hl := rfl) ?_
  refine xr_iload_n (pc := 15) (i := 2) (hI := d_Text_init_15) (hi := rfl) (hl := rfl) ?_
  refine xr_putfF (pc := 16) (ci := 9) (k := 1) (N := 6) (v9 := 0) (T := xF9) (tF := xT9) (hI := d_Text_init_16) (hw := w_123) rfl xi9 xt9 xn9 (Or.inl rfl) (Nat.le_of_ble_eq_true rfl) (Nat.le_of_ble_eq_true rfl) rfl xfit_i rfl rfl rfl (by decide +kernel) (by decide) (fun z => z) ?_
  refine xr_aload_n (pc := 19) (i := 0) (hI := d_Text_init_19) (hi := rfl) (hl := rfl) ?_
  refine xr_iload_n (pc := 20) (i := 3) (hI := d_Text_init_20) (hi := rfl) (hl := rfl) ?_
  refine xr_putfF (pc := 21) (ci := 9) (k := 2) (N := 6) (v9 := 0) (T := xF9) (tF := xT9) (hI := d_Text_init_21) (hw := w_125) rfl xi9 xt9 xn9 (Or.inl rfl) (Nat.le_of_ble_eq_true rfl) (Nat.le_of_ble_eq_true rfl) rfl xfit_i rfl rfl rfl (by decide +kernel) (by decide) (fun z => z) ?_
  refine xr_aload_n (pc := 24) (i := 0) (hI := d_Text_init_24) (hi := rfl) (hl := rfl) ?_
  refine xr_aload (pc := 25) (i := 4) (hI := d_Text_init_25) (hl := rfl) ?_
  refine xr_putfF (pc := 27) (ci := 9) (k := 3) (N := 6) (v9 := 2) (T := xF9) (tF := xT9) (hI := d_Text_init_27) (hw := w_127) rfl xi9 xt9 xn9 (Or.inl rfl) (Nat.le_of_ble_eq_true rfl) (Nat.le_of_ble_eq_true rfl) rfl (xfit_a _) rfl rfl rfl (by decide +kernel) (by decide) (fun z => z) ?_
  refine xr_aload_n (pc := 30) (i := 0) (hI := d_Text_init_30) (hi := rfl) (hl := rfl) ?_
  refine xr_aload (pc := 31) (i := 5) (hI := d_Text_init_31) (hl := rfl) ?_
  refine xr_putfF (pc := 33) (ci := 9) (k := 4) (N := 6) (v9 := 2) (T := xF9) (tF := xT9) (hI := d_Text_init_33) (hw := w_129) rfl xi9 xt9 xn9 (Or.inl rfl) (Nat.le_of_ble_eq_true rfl) (Nat.le_of_ble_eq_true rfl) rfl (xfit_a _) rfl rfl rfl (by decide +kernel) (by decide) (fun z => z) ?_
  show xwp G m_Text_init (d + 217) 36 [xR 9, xI 0, xI 0, xI 0, xR 10, xR 11] [] xK18 _ _
  refine xr_return (S := []) (pc := 36) (hI := d_Text_init_36) (hr := rfl) ?_
  exact q
def xK19 : XH := xst (xst (xst xK18 5 3 9) 5 4 0) 5 5 0
theorem cs_9 {G : XG} {d : Nat} {Q : XV → XH → Prop} {X : Nat → XH → Prop} (q : Q xN xK19) : xwp G m_Store_init (d + 218) 0 [xR 5] [] xK7 Q X := by
  refine xr_aload_n (pc := 0) (i := 0) (hI := d_Store_init_0) (hi := rfl) (hl := rfl) ?_
  refine xr_objInit (pc := 1) (hI := d_Store_init_1) w_86 w_46 w_objc (by decide) (Nat.le_add_left_of_le (by decide)) (Nat.le_of_ble_eq_true rfl) ?_
  refine xr_aload_n (pc := 4) (i := 0) (hI := d_Store_init_4) (hi := rfl) (hl := rfl) ?_
  refine xn_new (pc := 5) (A := 6) (ci := 13) (N := 3) (T := xF13) (tF := xT13) (hI := d_Store_init_5) w_87 xj13 w_6 rfl xi13 xt13 (Nat.le_of_ble_eq_true rfl) xd713 xdf13 (by decide +kernel) (by decide +kernel) (by decide +kernel) ?_
  show xwp G m_Store_init (d + 218) 8 [xR 5] [xR 6, xR 5] xK8 _ _
  refine xr_dup (pc := 8) (hI := d_Store_init_8) (hv := rfl) ?_
  refine xq_callI (pc := 9) (index := 11) (K := m_ArrayList_init) (As := []) (S := [xR 6, xR 5]) (L0 := [xR 6]) (hI := d_Store_init_9) (hK := k_ArrayList_init) (hlk := w_89) (hnoM := rfl) (hS8 := Nat.le_of_ble_eq_true rfl) (hb0 := by decide) (hinst := w_90) (hname := rfl) (hret := rfl) (hlen := Nat.le_of_ble_eq_true rfl) (hst := rfl) (hL0 := rfl) ?_
  refine cs_4 ?_
  show xwp G m_Store_init (d + 218) 12 [xR 5] [xR 6, xR 5] _ _ _
  refine xr_putfF (pc := 12) (ci := 7) (k := 0) (N := 6) (v9 := 2) (T := xF7) (tF := xT7) (hI := d_Store_init_12) (hw := w_148) rfl xi7 xt7 xn7 (Or.inl rfl) (Nat.le_of_ble_eq_true rfl) (Nat.le_of_ble_eq_true rfl) rfl (xfit_o _) rfl rfl rfl (by decide +kernel) (by decide) (fun z => z) ?_
  refine xr_aload_n (pc := 15) (i := 0) (hI := d_Store_init_15) (hi := rfl) (hl := rfl) ?_
  refine xn_new (pc := 16) (A := 7) (ci := 13) (N := 3) (T := xF13) (tF := xT13) (hI := d_Store_init_16) w_87 xj13 w_6 rfl xi13 xt13 (Nat.le_of_ble_eq_true rfl) xd713 xdf13 (by decide +kernel) (by decide +kernel) (by decide +kernel) ?_
  show xwp G m_Store_init (d + 218) 19 [xR 5] [xR 7, xR 5] xK11 _ _
  refine xr_dup (pc := 19) (hI := d_Store_init_19) (hv := rfl) ?_
  refine xq_callI (pc := 20) (index := 11) (K := m_ArrayList_init) (As := []) (S := [xR 7, xR 5]) (L0 := [xR 7]) (hI := d_Store_init_20) (hK := k_ArrayList_init) (hlk := w_89) (hnoM := rfl) (hS8 := Nat.le_of_ble_eq_true rfl) (hb0 := by decide) (hinst := w_90) (hname := rfl) (hret := rfl) (hlen := Nat.le_of_ble_eq_true rfl) (hst := rfl) (hL0 := rfl) ?_
  refine cs_7 ?_
  show xwp G m_Store_init (d + 218) 23 [xR 5] [xR 7, xR 5] _ _ _
  refine xr_putfF (pc := 23) (ci := 7) (k := 1) (N := 6) (v9 := 2) (T := xF7) (tF := xT7) (hI := d_Store_init_23) (hw := w_150) rfl xi7 xt7 xn7 (Or.inl rfl) (Nat.le_of_ble_eq_true rfl) (Nat.le_of_ble_eq_true rfl) rfl (xfit_o _) rfl rfl rfl (by decide +kernel) (by decide) (fun z => z) ?_
  refine xr_aload_n (pc := 26) (i := 0) (hI := d_Store_init_26) (hi := rfl) (hl := rfl) ?_
  refine xr_bipush (pc := 27) (hI := d_Store_init_27) (hr := by decide) (hv := by decide) ?_
  refine xn_newarray (pc := 29) (A := 8) (t := 100) (hI := d_Store_init_29) rfl w_79 rfl (Nat.le_of_ble_eq_true rfl) (Nat.le_of_ble_eq_true rfl) (by decide) (fun _ => rfl) (xok_z rfl) (by decide) (by decide) (by decide +kernel) (by decide +kernel) (by decide +kernel) ?_
  show xwp G m_Store_init (d + 218) 31 [xR 5] [xR 8, xR 5] xK14 _ _
  refine xr_putfF (pc := 31) (ci := 7) (k := 2) (N := 6) (v9 := 2) (T := xF7) (tF := xT7) (hI := d_Store_init_31) (hw := w_152) rfl xi7 xt7 xn7 (Or.inl rfl) (Nat.le_of_ble_eq_true rfl) (Nat.le_of_ble_eq_true rfl) rfl (xfit_a _) rfl rfl rfl (by decide +kernel) (by decide) (fun z => z) ?_
  refine xr_aload_n (pc := 34) (i := 0) (hI := d_Store_init_34) (hi := rfl) (hl := rfl) ?_
  refine xn_new (pc := 35) (A := 9) (ci := 9) (N := 6) (T := xF9) (tF := xT9) (hI := d_Store_init_35) w_113 xj9 w_7 rfl xi9 xt9 (Nat.le_of_ble_eq_true rfl) xd79 xdf9 (by decide +kernel) (by decide +kernel) (by decide +kernel) ?_
  show xwp G m_Store_init (d + 218) 38 [xR 5] [xR 9, xR 5] xK15 _ _
  refine xr_dup (pc := 38) (hI := d_Store_init_38) (hv := rfl) ?_
  refine xr_iconst (pc := 39) (hI := d_Store_init_39) (hr := by decide) ?_
  refine xr_iconst (pc := 40) (hI := d_Store_init_40) (hr := by decide) ?_
  refine xr_iconst (pc := 41) (hI := d_Store_init_41) (hr := by decide) ?_
  refine xr_iconst (pc := 42) (hI := d_Store_init_42) (hr := by decide) ?_
  refine xn_newarray (pc := 43) (A := 10) (t := 101) (hI := d_Store_init_43) rfl w_80 rfl (Nat.le_of_ble_eq_true rfl) (Nat.le_of_ble_eq_true rfl) (by decide) (fun _ => rfl) (xok_z rfl) (by decide) (by decide) (by decide +kernel) (by decide +kernel) (by decide +kernel) ?_
  show xwp G m_Store_init (d + 218) 45 [xR 5] [xR 10, xI 0, xI 0, xI 0, xR 9, xR 9, xR 5] xK16 _ _
  refine xr_iconst (pc := 45) (hI := d_Store_init_45) (hr := by decide) ?_
  refine xn_newarray (pc := 46) (A := 11) (t := 101) (hI := d_Store_init_46) rfl w_80 rfl (Nat.le_of_ble_eq_true rfl) (Nat.le_of_ble_eq_true rfl) (by decide) (fun _ => rfl) (xok_z rfl) (by decide) (by decide) (by decide +kernel) (by decide +kernel) (by decide +kernel) ?_
  show xwp G m_Store_init (d + 218) 48 [xR 5] [xR 11, xR 10, xI 0, xI 0, xI 0, xR 9, xR 9, xR 5] xK17 _ _
  refine xq_callI (pc := 48) (index := 27) (K := m_Text_init) (As := [xI 0, xI 0, xI 0, xR 10, xR 11]) (S := [xR 9, xR 5]) (L0 := [xR 9, xI 0, xI 0, xI 0, xR 10, xR 11]) (hI := d_Store_init_48) (hK := k_Text_init) (hlk := w_115) (hnoM := rfl) (hS8 := Nat.le_of_ble_eq_true rfl) (hb0 := by decide) (hinst := w_116) (hname := rfl) (hret := rfl) (hlen := Nat.le_of_ble_eq_true rfl) (hst := rfl) (hL0 := rfl) ?_
  refine cs_8 ?_
  show xwp G m_Store_init (d + 218) 51 [xR 5] [xR 9, xR 5] _ _ _
  refine xr_putfF (pc := 51) (ci := 7) (k := 3) (N := 6) (v9 := 2) (T := xF7) (tF := xT7) (hI := d_Store_init_51) (hw := w_153) rfl xi7 xt7 xn7 (Or.inl rfl) (Nat.le_of_ble_eq_true rfl) (Nat.le_of_ble_eq_true rfl) rfl (xfit_o _) rfl rfl rfl (by decide +kernel) (by decide) (fun z => z) ?_
  refine xr_aload_n (pc := 54) (i := 0) (hI := d_Store_init_54) (hi := rfl) (hl := rfl) ?_
  refine xr_iconst (pc := 55) (hI := d_Store_init_55) (hr := by decide) ?_
  refine xr_putf (pc := 56) (ci := 7) (k := 4) (N := 6) (v9 := 0) (T := xF7) (tF := xT7) (hI := d_Store_init_56) (hw := w_154) rfl xi7 xt7 xn7 (Or.inl rfl) (Nat.le_of_ble_eq_true rfl) (Nat.le_of_ble_eq_true rfl) rfl xfit_i rfl (by decide +kernel) (by decide) (fun z => z) ?_
  refine xr_aload_n (pc := 59) (i := 0) (hI := d_Store_init_59) (hi := rfl) (hl := rfl) ?_
  refine xr_iconst (pc := 60) (hI := d_Store_init_60) (hr := by decide) ?_
  refine xr_putf (pc := 61) (ci := 7) (k := 5) (N := 6) (v9 := 0) (T := xF7) (tF := xT7) (hI := d_Store_init_61) (hw := w_156) rfl xi7 xt7 xn7 (Or.inl rfl) (Nat.le_of_ble_eq_true rfl) (Nat.le_of_ble_eq_true rfl) rfl xfit_i rfl (by decide +kernel) (by decide) (fun z => z) ?_
  show xwp G m_Store_init (d + 218) 64 [xR 5] [] xK19 _ _
  refine xr_return (S := []) (pc := 64) (hI := d_Store_init_64) (hr := rfl) ?_
  exact q
def xK20 : XH := xmkn (xst xK19 0 1 5) 12 10 7 (xdef 10)
def xK21 : XH := xmkn xK20 13 101 64 (fun _ => 0)
def xK22 : XH := xmkn (xst xK21 12 0 13) 14 100 64 (fun _ => 0)
def xK23 : XH := xmkn (xst xK22 12 1 14) 15 100 64 (fun _ => 0)
def xK24 : XH := xmm (xst (xst xK23 12 2 15) 12 3 0) 16
def xK25 : XH := xmkn (xst xK24 12 4 16) 30 100 12 (fun _ => 0)
def xK26 : XH := xmkn (xst xK25 12 5 30) 31 100 12 (fun _ => 0)
def xK27 : XH := xst xK26 12 6 31
theorem cs_10 {G : XG} {d : Nat} {Q : XV → XH → Prop} {X : Nat → XH → Prop} (q : Q xN xK27) : xwp G m_Vocabulary_init (d + 218) 0 [xR 12] [] xK20 Q X := by
  refine xr_aload_n (pc := 0) (i := 0) (hI := d_Vocabulary_init_0) (hi := rfl) (hl := rfl) ?_
  refine xr_objInit (pc := 1) (hI := d_Vocabulary_init_1) w_176 w_46 w_objc (by decide) (Nat.le_add_left_of_le (by decide)) (Nat.le_of_ble_eq_true rfl) ?_
  refine xr_aload_n (pc := 4) (i := 0) (hI := d_Vocabulary_init_4) (hi := rfl) (hl := rfl) ?_
  refine xr_bipush (pc := 5) (hI := d_Vocabulary_init_5) (hr := by decide) (hv := by decide) ?_
  refine xn_newarray (pc := 7) (A := 13) (t := 101) (hI := d_Vocabulary_init_7) rfl w_80 rfl (Nat.le_of_ble_eq_true rfl) (Nat.le_of_ble_eq_true rfl) (by decide) (fun _ => rfl) (xok_z rfl) (by decide) (by decide) (by decide +kernel) (by decide +kernel) (by decide +kernel) ?_
  show xwp G m_Vocabulary_init (d + 218) 9 [xR 12] [xR 13, xR 12] xK21 _ _
  refine xr_putf (pc := 9) (ci := 10) (k := 0) (N := 7) (v9 := 2) (T := xF10) (tF := xT10) (hI := d_Vocabulary_init_9) (hw := w_179) rfl xi10 xt10 xn10 (Or.inl rfl) (Nat.le_of_ble_eq_true rfl) (Nat.le_of_ble_eq_true rfl) rfl (xfit_a _) rfl (by decide +kernel) (by decide) (fun z => z) ?_
  refine xr_aload_n (pc := 12) (i := 0) (hI := d_Vocabulary_init_12) (hi := rfl) (hl := rfl) ?_
  refine xr_bipush (pc := 13) (hI := d_Vocabulary_init_13) (hr := by decide) (hv := by decide) ?_
  refine xn_newarray (pc := 15) (A := 14) (t := 100) (hI := d_Vocabulary_init_15) rfl w_79 rfl (Nat.le_of_ble_eq_true rfl) (Nat.le_of_ble_eq_true rfl) (by decide) (fun _ => rfl) (xok_z rfl) (by decide) (by decide) (by decide +kernel) (by decide +kernel) (by decide +kernel) ?_
  show xwp G m_Vocabulary_init (d + 218) 17 [xR 12] [xR 14, xR 12] xK22 _ _
  refine xr_putf (pc := 17) (ci := 10) (k := 1) (N := 7) (v9 := 2) (T := xF10) (tF := xT10) (hI := d_Vocabulary_init_17) (hw := w_180) rfl xi10 xt10 xn10 (Or.inl rfl) (Nat.le_of_ble_eq_true rfl) (Nat.le_of_ble_eq_true rfl) rfl (xfit_a _) rfl (by decide +kernel) (by decide) (fun z => z) ?_
  refine xr_aload_n (pc := 20) (i := 0) (hI := d_Vocabulary_init_20) (hi := rfl) (hl := rfl) ?_
  refine xr_bipush (pc := 21) (hI := d_Vocabulary_init_21) (hr := by decide) (hv := by decide) ?_
  refine xn_newarray (pc := 23) (A := 15) (t := 100) (hI := d_Vocabulary_init_23) rfl w_79 rfl (Nat.le_of_ble_eq_true rfl) (Nat.le_of_ble_eq_true rfl) (by decide) (fun _ => rfl) (xok_z rfl) (by decide) (by decide) (by decide +kernel) (by decide +kernel) (by decide +kernel) ?_
  show xwp G m_Vocabulary_init (d + 218) 25 [xR 12] [xR 15, xR 12] xK23 _ _
  refine xr_putf (pc := 25) (ci := 10) (k := 2) (N := 7) (v9 := 2) (T := xF10) (tF := xT10) (hI := d_Vocabulary_init_25) (hw := w_181) rfl xi10 xt10 xn10 (Or.inl rfl) (Nat.le_of_ble_eq_true rfl) (Nat.le_of_ble_eq_true rfl) rfl (xfit_a _) rfl (by decide +kernel) (by decide) (fun z => z) ?_
  refine xr_aload_n (pc := 28) (i := 0) (hI := d_Vocabulary_init_28) (hi := rfl) (hl := rfl) ?_
  refine xr_iconst (pc := 29) (hI := d_Vocabulary_init_29) (hr := by decide) ?_
  refine xr_putf (pc := 30) (ci := 10) (k := 3) (N := 7) (v9 := 0) (T := xF10) (tF := xT10) (hI := d_Vocabulary_init_30) (hw := w_182) rfl xi10 xt10 xn10 (Or.inl rfl) (Nat.le_of_ble_eq_true rfl) (Nat.le_of_ble_eq_true rfl) rfl xfit_i rfl (by decide +kernel) (by decide) (fun z => z) ?_
  refine xr_aload_n (pc := 33) (i := 0) (hI := d_Vocabulary_init_33) (hi := rfl) (hl := rfl) ?_
  refine xr_bipush (pc := 34) (hI := d_Vocabulary_init_34) (hr := by decide) (hv := by decide) ?_
  refine xr_bipush (pc := 36) (hI := d_Vocabulary_init_36) (hr := by decide) (hv := by decide) ?_
  refine xn_multi (pc := 38) (A := 16) (hI := d_Vocabulary_init_38) w_177 w_178 w_79 (by decide +kernel) (by decide +kernel) (by decide +kernel) ?_
  show xwp G m_Vocabulary_init (d + 218) 42 [xR 12] [xR 16, xR 12] xK24 _ _
  refine xr_putfF (pc := 42) (ci := 10) (k := 4) (N := 7) (v9 := 2) (T := xF10) (tF := xT10) (hI := d_Vocabulary_init_42) (hw := w_184) rfl xi10 xt10 xn10 (Or.inl rfl) (Nat.le_of_ble_eq_true rfl) (Nat.le_of_ble_eq_true rfl) rfl (xfit_a _) rfl rfl rfl (by decide +kernel) (by decide) (fun z => z) ?_
  refine xr_aload_n (pc := 45) (i := 0) (hI := d_Vocabulary_init_45) (hi := rfl) (hl := rfl) ?_
  refine xr_bipush (pc := 46) (hI := d_Vocabulary_init_46) (hr := by decide) (hv := by decide) ?_
  refine xn_newarray (pc := 48) (A := 30) (t := 100) (hI := d_Vocabulary_init_48) rfl w_79 rfl (Nat.le_of_ble_eq_true rfl) (Nat.le_of_ble_eq_true rfl) (by decide) (fun _ => rfl) (xok_z rfl) (by decide) (by decide) (by decide +kernel) (by decide +kernel) (by decide +kernel) ?_
  show xwp G m_Vocabulary_init (d + 218) 50 [xR 12] [xR 30, xR 12] xK25 _ _
  refine xr_putfF (pc := 50) (ci := 10) (k := 5) (N := 7) (v9 := 2) (T := xF10) (tF := xT10) (hI := d_Vocabulary_init_50) (hw := w_185) rfl xi10 xt10 xn10 (Or.inl rfl) (Nat.le_of_ble_eq_true rfl) (Nat.le_of_ble_eq_true rfl) rfl (xfit_a _) rfl rfl rfl (by decide +kernel) (by decide) (fun z => z) ?_
  refine xr_aload_n (pc := 53) (i := 0) (hI := d_Vocabulary_init_53) (hi := rfl) (hl := rfl) ?_
  refine xr_bipush (pc := 54) (hI := d_Vocabulary_init_54) (hr := by decide) (hv := by decide) ?_
  refine xn_newarray (pc := 56) (A := 31) (t := 100) (hI := d_Vocabulary_init_56) rfl w_79 rfl (Nat.le_of_ble_eq_true rfl) (Nat.le_of_ble_eq_true rfl) (by decide) (fun _ => rfl) (xok_z rfl) (by decide) (by decide) (by decide +kernel) (by decide +kernel) (by decide +kernel) ?_
  show xwp G m_Vocabulary_init (d + 218) 58 [xR 12] [xR 31, xR 12] xK26 _ _
  refine xr_putfF (pc := 58) (ci := 10) (k := 6) (N := 7) (v9 := 2) (T := xF10) (tF := xT10) (hI := d_Vocabulary_init_58) (hw := w_186) rfl xi10 xt10 xn10 (Or.inl rfl) (Nat.le_of_ble_eq_true rfl) (Nat.le_of_ble_eq_true rfl) rfl (xfit_a _) rfl rfl rfl (by decide +kernel) (by decide) (fun z => z) ?_
  show xwp G m_Vocabulary_init (d + 218) 61 [xR 12] [] xK27 _ _
  refine xr_return (S := []) (pc := 61) (hI := d_Vocabulary_init_61) (hr := rfl) ?_
  exact q
def xK28 : XH := xmkn (xst xK27 0 2 12) 32 6 15 (xdef 6)
def xK29 : XH := xmkn xK28 33 101 40 (fun _ => 0)
def xK30 : XH := xmkn (xst (xst xK29 32 0 33) 32 1 0) 34 13 3 (xdef 13)
theorem cs_11 {G : XG} {d : Nat} {Q : XV → XH → Prop} {X : Nat → XH → Prop} (q : Q xN xK30) : xwp G m_AbstractCollection_init (d + 215) 0 [xR 34] [] xK30 Q X := by
  refine xr_aload_n (pc := 0) (i := 0) (hI := d_AbstractCollection_init_0) (hi := rfl) (hl := rfl) ?_
  refine xr_objInit (pc := 1) (hI := d_AbstractCollection_init_1) w_98 w_46 w_objc (by decide) (Nat.le_add_left_of_le (by decide)) (Nat.le_of_ble_eq_true rfl) ?_
  refine xr_return (S := []) (pc := 4) (hI := d_AbstractCollection_init_4) (hr := rfl) ?_
  exact q
def xK31 : XH := xst xK30 34 2 0
theorem cs_12 {G : XG} {d : Nat} {Q : XV → XH → Prop} {X : Nat → XH → Prop} (q : Q xN xK31) : xwp G m_AbstractList_init (d + 216) 0 [xR 34] [] xK30 Q X := by
  refine xr_aload_n (pc := 0) (i := 0) (hI := d_AbstractList_init_0) (hi := rfl) (hl := rfl) ?_
  refine xq_callI (pc := 1) (index := 1) (K := m_AbstractCollection_init) (As := []) (S := []) (L0 := [xR 34]) (hI := d_AbstractList_init_1) (hK := k_AbstractCollection_init) (hlk := w_95) (hnoM := rfl) (hS8 := Nat.le_of_ble_eq_true rfl) (hb0 := by decide) (hinst := w_96) (hname := rfl) (hret := rfl) (hlen := Nat.le_of_ble_eq_true rfl) (hst := rfl) (hL0 := rfl) ?_
  refine cs_11 ?_
  show xwp G m_AbstractList_init (d + 216) 4 [xR 34] [] _ _ _
  refine xr_aload_n (pc := 4) (i := 0) (hI := d_AbstractList_init_4) (hi := rfl) (hl := rfl) ?_
  refine xr_iconst (pc := 5) (hI := d_AbstractList_init_5) (hr := by decide) ?_
  refine xr_putf (pc := 6) (ci := 13) (k := 2) (N := 3) (v9 := 0) (T := xF13) (tF := xT13) (hI := d_AbstractList_init_6) (hw := w_103) rfl xi13 xt13 xn13 (Or.inl rfl) (Nat.le_of_ble_eq_true rfl) (Nat.le_of_ble_eq_true rfl) rfl xfit_i rfl (by decide +kernel) (by decide) (fun z => z) ?_
  show xwp G m_AbstractList_init (d + 216) 9 [xR 34] [] xK31 _ _
  refine xr_return (S := []) (pc := 9) (hI := d_AbstractList_init_9) (hr := rfl) ?_
  exact q
def xK32 : XH := xst xK31 34 0 (-103)
theorem cs_13 {G : XG} {d : Nat} {Q : XV → XH → Prop} {X : Nat → XH → Prop} (q : Q xN xK32) : xwp G m_ArrayList_init (d + 217) 0 [xR 34] [] xK30 Q X := by
  refine xr_aload_n (pc := 0) (i := 0) (hI := d_ArrayList_init_0) (hi := rfl) (hl := rfl) ?_
  refine xq_callI (pc := 1) (index := 1) (K := m_AbstractList_init) (As := []) (S := []) (L0 := [xR 34]) (hI := d_ArrayList_init_1) (hK := k_AbstractList_init) (hlk := w_92) (hnoM := rfl) (hS8 := Nat.le_of_ble_eq_true rfl) (hb0 := by decide) (hinst := w_93) (hname := rfl) (hret := rfl) (hlen := Nat.le_of_ble_eq_true rfl) (hst := rfl) (hL0 := rfl) ?_
  refine cs_12 ?_
  show xwp G m_ArrayList_init (d + 217) 4 [xR 34] [] _ _ _
  refine xr_aload_n (pc := 4) (i := 0) (hI := d_ArrayList_init_4) (hi := rfl) (hl := rfl) ?_
  refine xr_getstatic (pc := 5) (v := xR (-103)) (hI := d_ArrayList_init_5) w_99 (by decide +kernel) (by exact trivial) ?_
  refine xr_putf (pc := 8) (ci := 13) (k := 0) (N := 3) (v9 := 2) (T := xF13) (tF := xT13) (hI := d_ArrayList_init_8) (hw := w_101) rfl xi13 xt13 xn13 (Or.inl rfl) (Nat.le_of_ble_eq_true rfl) (Nat.le_of_ble_eq_true rfl) rfl (xfit_a _) rfl (by decide +kernel) (by decide) (fun z => z) ?_
  show xwp G m_ArrayList_init (d + 217) 11 [xR 34] [] xK32 _ _
  refine xr_return (S := []) (pc := 11) (hI := d_ArrayList_init_11) (hr := rfl) ?_
  exact q
def xK33 : XH := xmkn (xst xK32 32 2 34) 35 4 13 (xdef 4)
def xK34 : XH := xmkn xK33 36 101 0 (fun _ => 0)
def xK35 : XH := xst (xst (xst (xst (xst (xst xK34 35 6 1) 35 7 0) 35 8 0) 35 9 0) 35 10 0) 35 11 0
def xK36 : XH := xst (xst (xst (xst (xst (xst xK35 35 12 0) 35 0 0) 35 1 0) 35 2 2) 35 3 0) 35 5 3
def xK37 : XH := xst xK36 35 4 36
theorem cs_14 {G : XG} {d : Nat} {Q : XV → XH → Prop} {X : Nat → XH → Prop} (q : Q xN xK37) : xwp G m_Part_init (d + 217) 0 [xR 35, xI 0, xI 0, xI 2, xI 0, xI 3, xR 36] [] xK34 Q X := by
  refine xr_aload_n (pc := 0) (i := 0) (hI := d_Part_init_0) (hi := rfl) (hl := rfl) ?_
  refine xr_objInit (pc := 1) (hI := d_Part_init_1) w_215 w_46 w_objc (by decide) (Nat.le_add_left_of_le (by decide)) (Nat.le_of_ble_eq_true rfl) ?_
  refine xr_aload_n (pc := 4) (i := 0) (hI := d_Part_init_4) (hi := rfl) (hl := rfl) ?_
  refine xr_iconst (pc := 5) (hI := d_Part_init_5) (hr := by decide) ?_
  refine xr_putf (pc := 6) (ci := 4) (k := 6) (N := 13) (v9 := 0) (T := xF4) (tF := xT4) (hI := d_Part_init_6) (hw := w_232) rfl xi4 xt4 xn4 (Or.inl rfl) (Nat.le_of_ble_eq_true rfl) (Nat.le_of_ble_eq_true rfl) rfl xfit_i rfl (by decide +kernel) (by decide) (fun z => z) ?_
  refine xr_aload_n (pc := 9) (i := 0) (hI := d_Part_init_9) (hi := rfl) (hl := rfl) ?_
  refine xr_iconst (pc := 10) (hI := d_Part_init_10) (hr := by decide) ?_
  refine xr_putf (pc := 11) (ci := 4) (k := 7) (N := 13) (v9 := 0) (T := xF4) (tF := xT4) (hI := d_Part_init_11) (hw := w_235) rfl xi4 xt4 xn4 (Or.inl rfl) (Nat.le_of_ble_eq_true rfl) (Nat.le_of_ble_eq_true rfl) rfl xfit_i rfl (by decide +kernel) (by decide) (fun z => z) ?_
  refine xr_aload_n (pc := 14) (i := 0) (hI := d_Part_init_14) (hi := rfl) (hl := rfl) ?_
  refine xr_lconst (pc := 15) (z := 0) (hI := d_Part_init_15) (hr := by decide) (hv := by decide) ?_
  refine xr_putf (pc := 16) (ci := 4) (k := 8) (N := 13) (v9 := 1) (T := xF4) (tF := xT4) (hI := d_Part_init_16) (hw := w_238) rfl xi4 xt4 xn4 (Or.inl rfl) (Nat.le_of_ble_eq_true rfl) (Nat.le_of_ble_eq_true rfl) rfl xfit_l rfl (by decide +kernel) (by decide) (fun z => z) ?_
  refine xr_aload_n (pc := 19) (i := 0) (hI := d_Part_init_19) (hi := rfl) (hl := rfl) ?_
  refine xr_iconst (pc := 20) (hI := d_Part_init_20) (hr := by decide) ?_
  refine xr_putf (pc := 21) (ci := 4) (k := 9) (N := 13) (v9 := 0) (T := xF4) (tF := xT4) (hI := d_Part_init_21) (hw := w_241) rfl xi4 xt4 xn4 (Or.inl rfl) (Nat.le_of_ble_eq_true rfl) (Nat.le_of_ble_eq_true rfl) rfl xfit_i rfl (by decide +kernel) (by decide) (fun z => z) ?_
  refine xr_aload_n (pc := 24) (i := 0) (hI := d_Part_init_24) (hi := rfl) (hl := rfl) ?_
  refine xr_iconst (pc := 25) (hI := d_Part_init_25) (hr := by decide) ?_
  refine xr_putf (pc := 26) (ci := 4) (k := 10) (N := 13) (v9 := 0) (T := xF4) (tF := xT4) (hI := d_Part_init_26) (hw := w_244) rfl xi4 xt4 xn4 (Or.inl rfl) (Nat.le_of_ble_eq_true rfl) (Nat.le_of_ble_eq_true rfl) rfl xfit_i rfl (by decide +kernel) (by decide) (fun z => z) ?_
  refine xr_aload_n (pc := 29) (i := 0) (hI := d_Part_init_29) (hi := rfl) (hl := rfl) ?_
  refine xr_iconst (pc := 30) (hI := d_Part_init_30) (hr := by decide) ?_
  refine xr_putf (pc := 31) (ci := 4) (k := 11) (N := 13) (v9 := 0) (T := xF4) (tF := xT4) (hI := d_Part_init_31) (hw := w_247) rfl xi4 xt4 xn4 (Or.inl rfl) (Nat.le_of_ble_eq_true rfl) (Nat.le_of_ble_eq_true rfl) rfl xfit_i rfl (by decide +kernel) (by decide) (fun z => z) ?_
  show xwp G m_Part_init (d + 217) 34 [xR 35, xI 0, xI 0, xI 2, xI 0, xI 3, xR 36] [] xK35 _ _
  refine xr_aload_n (pc := 34) (i := 0) (hI := d_Part_init_34) (hi := rfl) (hl := rfl) ?_
  refine xr_iconst (pc := 35) (hI := d_Part_init_35) (hr := by decide) ?_
  refine xr_putf (pc := 36) (ci := 4) (k := 12) (N := 13) (v9 := 0) (T := xF4) (tF := xT4) (hI := d_Part_init_36) (hw := w_249) rfl xi4 xt4 xn4 (Or.inl rfl) (Nat.le_of_ble_eq_true rfl) (Nat.le_of_ble_eq_true rfl) rfl xfit_i rfl (by decide +kernel) (by decide) (fun z => z) ?_
  refine xr_aload_n (pc := 39) (i := 0) (hI := d_Part_init_39) (hi := rfl) (hl := rfl) ?_
  refine xr_iload_n (pc := 40) (i := 1) (hI := d_Part_init_40) (hi := rfl) (hl := rfl) ?_
  refine xr_putfF (pc := 41) (ci := 4) (k := 0) (N := 13) (v9 := 0) (T := xF4) (tF := xT4) (hI := d_Part_init_41) (hw := w_216) rfl xi4 xt4 xn4 (Or.inl rfl) (Nat.le_of_ble_eq_true rfl) (Nat.le_of_ble_eq_true rfl) rfl xfit_i rfl rfl rfl (by decide +kernel) (by decide) (fun z => z) ?_
  refine xr_aload_n (pc := 44) (i := 0) (hI := d_Part_init_44) (hi := rfl) (hl := rfl) ?_
  refine xr_iload_n (pc := 45) (i := 2) (hI := d_Part_init_45) (hi := rfl) (hl := rfl) ?_
  refine xr_putfF (pc := 46) (ci := 4) (k := 1) (N := 13) (v9 := 0) (T := xF4) (tF := xT4) (hI := d_Part_init_46) (hw := w_218) rfl xi4 xt4 xn4 (Or.inl rfl) (Nat.le_of_ble_eq_true rfl) (Nat.le_of_ble_eq_true rfl) rfl xfit_i rfl rfl rfl (by decide +kernel) (by decide) (fun z => z) ?_
  refine xr_aload_n (pc := 49) (i := 0) (hI := d_Part_init_49) (hi := rfl) (hl := rfl) ?_
  refine xr_iload_n (pc := 50) (i := 3) (hI := d_Part_init_50) (hi := rfl) (hl := rfl) ?_
  refine xr_putfF (pc := 51) (ci := 4) (k := 2) (N := 13) (v9 := 0) (T := xF4) (tF := xT4) (hI := d_Part_init_51) (hw := w_220) rfl xi4 xt4 xn4 (Or.inl rfl) (Nat.le_of_ble_eq_true rfl) (Nat.le_of_ble_eq_true rfl) rfl xfit_i rfl rfl rfl (by decide +kernel) (by decide) (fun z => z) ?_
  refine xr_aload_n (pc := 54) (i := 0) (hI := d_Part_init_54) (hi := rfl) (hl := rfl) ?_
  refine xr_iload (pc := 55) (i := 4) (hI := d_Part_init_55) (hl := rfl) ?_
  refine xr_putfF (pc := 57) (ci := 4) (k := 3) (N := 13) (v9 := 0) (T := xF4) (tF := xT4) (hI := d_Part_init_57) (hw := w_222) rfl xi4 xt4 xn4 (Or.inl rfl) (Nat.le_of_ble_eq_true rfl) (Nat.le_of_ble_eq_true rfl) rfl xfit_z rfl rfl rfl (by decide +kernel) (by decide) (fun _ => (by decide : (0 : Int) ≤ 0 ∧ (0 : Int) ≤ 1)) ?_
  refine xr_aload_n (pc := 60) (i := 0) (hI := d_Part_init_60) (hi := rfl) (hl := rfl) ?_
  refine xr_iload (pc := 61) (i := 5) (hI := d_Part_init_61) (hl := rfl) ?_
  refine xr_putf (pc := 63) (ci := 4) (k := 5) (N := 13) (v9 := 0) (T := xF4) (tF := xT4) (hI := d_Part_init_63) (hw := w_228) rfl xi4 xt4 xn4 (Or.inl rfl) (Nat.le_of_ble_eq_true rfl) (Nat.le_of_ble_eq_true rfl) rfl xfit_i rfl (by decide +kernel) (by decide) (fun z => z) ?_
  show xwp G m_Part_init (d + 217) 66 [xR 35, xI 0, xI 0, xI 2, xI 0, xI 3, xR 36] [] xK36 _ _
  refine xr_aload_n (pc := 66) (i := 0) (hI := d_Part_init_66) (hi := rfl) (hl := rfl) ?_
  refine xr_aload (pc := 67) (i := 6) (hI := d_Part_init_67) (hl := rfl) ?_
  refine xr_putfF (pc := 69) (ci := 4) (k := 4) (N := 13) (v9 := 2) (T := xF4) (tF := xT4) (hI := d_Part_init_69) (hw := w_225) rfl xi4 xt4 xn4 (Or.inl rfl) (Nat.le_of_ble_eq_true rfl) (Nat.le_of_ble_eq_true rfl) rfl (xfit_a _) rfl rfl rfl (by decide +kernel) (by decide) (fun z => z) ?_
  show xwp G m_Part_init (d + 217) 72 [xR 35, xI 0, xI 0, xI 2, xI 0, xI 3, xR 36] [] xK37 _ _
  refine xr_return (S := []) (pc := 72) (hI := d_Part_init_72) (hr := rfl) ?_
  exact q
def xK38 : XH := xmkn (xst xK37 32 3 35) 37 5 5 (xdef 5)
def xK39 : XH := xmkn xK38 38 13 3 (xdef 13)
theorem cs_15 {G : XG} {d : Nat} {Q : XV → XH → Prop} {X : Nat → XH → Prop} (q : Q xN xK39) : xwp G m_AbstractCollection_init (d + 214) 0 [xR 38] [] xK39 Q X := by
  refine xr_aload_n (pc := 0) (i := 0) (hI := d_AbstractCollection_init_0) (hi := rfl) (hl := rfl) ?_
  refine xr_objInit (pc := 1) (hI := d_AbstractCollection_init_1) w_98 w_46 w_objc (by decide) (Nat.le_add_left_of_le (by decide)) (Nat.le_of_ble_eq_true rfl) ?_
  refine xr_return (S := []) (pc := 4) (hI := d_AbstractCollection_init_4) (hr := rfl) ?_
  exact q
def xK40 : XH := xst xK39 38 2 0
theorem cs_16 {G : XG} {d : Nat} {Q : XV → XH → Prop} {X : Nat → XH → Prop} (q : Q xN xK40) : xwp G m_AbstractList_init (d + 215) 0 [xR 38] [] xK39 Q X := by
  refine xr_aload_n (pc := 0) (i := 0) (hI := d_AbstractList_init_0) (hi := rfl) (hl := rfl) ?_
  refine xq_callI (pc := 1) (index := 1) (K := m_AbstractCollection_init) (As := []) (S := []) (L0 := [xR 38]) (hI := d_AbstractList_init_1) (hK := k_AbstractCollection_init) (hlk := w_95) (hnoM := rfl) (hS8 := Nat.le_of_ble_eq_true rfl) (hb0 := by decide) (hinst := w_96) (hname := rfl) (hret := rfl) (hlen := Nat.le_of_ble_eq_true rfl) (hst := rfl) (hL0 := rfl) ?_
  refine cs_15 ?_
  show xwp G m_AbstractList_init (d + 215) 4 [xR 38] [] _ _ _
  refine xr_aload_n (pc := 4) (i := 0) (hI := d_AbstractList_init_4) (hi := rfl) (hl := rfl) ?_
  refine xr_iconst (pc := 5) (hI := d_AbstractList_init_5) (hr := by decide) ?_
  refine xr_putf (pc := 6) (ci := 13) (k := 2) (N := 3) (v9 := 0) (T := xF13) (tF := xT13) (hI := d_AbstractList_init_6) (hw := w_103) rfl xi13 xt13 xn13 (Or.inl rfl) (Nat.le_of_ble_eq_true rfl) (Nat.le_of_ble_eq_true rfl) rfl xfit_i rfl (by decide +kernel) (by decide) (fun z => z) ?_
  show xwp G m_AbstractList_init (d + 215) 9 [xR 38] [] xK40 _ _
  refine xr_return (S := []) (pc := 9) (hI := d_AbstractList_init_9) (hr := rfl) ?_
  exact q
def xK41 : XH := xst xK40 38 0 (-103)
theorem cs_17 {G : XG} {d : Nat} {Q : XV → XH → Prop} {X : Nat → XH → Prop} (q : Q xN xK41) : xwp G m_ArrayList_init (d + 216) 0 [xR 38] [] xK39 Q X := by
  refine xr_aload_n (pc := 0) (i := 0) (hI := d_ArrayList_init_0) (hi := rfl) (hl := rfl) ?_
  refine xq_callI (pc := 1) (index := 1) (K := m_AbstractList_init) (As := []) (S := []) (L0 := [xR 38]) (hI := d_ArrayList_init_1) (hK := k_AbstractList_init) (hlk := w_92) (hnoM := rfl) (hS8 := Nat.le_of_ble_eq_true rfl) (hb0 := by decide) (hinst := w_93) (hname := rfl) (hret := rfl) (hlen := Nat.le_of_ble_eq_true rfl) (hst := rfl) (hL0 := rfl) ?_
  refine cs_16 ?_
  show xwp G m_ArrayList_init (d + 216) 4 [xR 38] [] _ _ _
  refine xr_aload_n (pc := 4) (i := 0) (hI := d_ArrayList_init_4) (hi := rfl) (hl := rfl) ?_
  refine xr_getstatic (pc := 5) (v := xR (-103)) (hI := d_ArrayList_init_5) w_99 (by decide +kernel) (by exact trivial) ?_
  refine xr_putf (pc := 8) (ci := 13) (k := 0) (N := 3) (v9 := 2) (T := xF13) (tF := xT13) (hI := d_ArrayList_init_8) (hw := w_101) rfl xi13 xt13 xn13 (Or.inl rfl) (Nat.le_of_ble_eq_true rfl) (Nat.le_of_ble_eq_true rfl) rfl (xfit_a _) rfl (by decide +kernel) (by decide) (fun z => z) ?_
  show xwp G m_ArrayList_init (d + 216) 11 [xR 38] [] xK41 _ _
  refine xr_return (S := []) (pc := 11) (hI := d_ArrayList_init_11) (hr := rfl) ?_
  exact q
def xK42 : XH := xst (xst (xst (xst (xst xK41 37 0 38) 37 1 0) 37 2 0) 37 3 0) 37 4 0
theorem cs_18 {G : XG} {d : Nat} {Q : XV → XH → Prop} {X : Nat → XH → Prop} (q : Q xN xK42) : xwp G m_Question_init (d + 217) 0 [xR 37] [] xK38 Q X := by
  refine xr_aload_n (pc := 0) (i := 0) (hI := d_Question_init_0) (hi := rfl) (hl := rfl) ?_
  refine xr_objInit (pc := 1) (hI := d_Question_init_1) w_283 w_46 w_objc (by decide) (Nat.le_add_left_of_le (by decide)) (Nat.le_of_ble_eq_true rfl) ?_
  refine xr_aload_n (pc := 4) (i := 0) (hI := d_Question_init_4) (hi := rfl) (hl := rfl) ?_
  refine xn_new (pc := 5) (A := 38) (ci := 13) (N := 3) (T := xF13) (tF := xT13) (hI := d_Question_init_5) w_284 xj13 w_6 rfl xi13 xt13 (Nat.le_of_ble_eq_true rfl) xd713 xdf13 (by decide +kernel) (by decide +kernel) (by decide +kernel) ?_
  show xwp G m_Question_init (d + 217) 8 [xR 37] [xR 38, xR 37] xK39 _ _
  refine xr_dup (pc := 8) (hI := d_Question_init_8) (hv := rfl) ?_
  refine xq_callI (pc := 9) (index := 9) (K := m_ArrayList_init) (As := []) (S := [xR 38, xR 37]) (L0 := [xR 38]) (hI := d_Question_init_9) (hK := k_ArrayList_init) (hlk := w_285) (hnoM := rfl) (hS8 := Nat.le_of_ble_eq_true rfl) (hb0 := by decide) (hinst := w_90) (hname := rfl) (hret := rfl) (hlen := Nat.le_of_ble_eq_true rfl) (hst := rfl) (hL0 := rfl) ?_
  refine cs_17 ?_
  show xwp G m_Question_init (d + 217) 12 [xR 37] [xR 38, xR 37] _ _ _
  refine xr_putfF (pc := 12) (ci := 5) (k := 0) (N := 5) (v9 := 2) (T := xF5) (tF := xT5) (hI := d_Question_init_12) (hw := w_286) rfl xi5 xt5 xn5 (Or.inl rfl) (Nat.le_of_ble_eq_true rfl) (Nat.le_of_ble_eq_true rfl) rfl (xfit_o _) rfl rfl rfl (by decide +kernel) (by decide) (fun z => z) ?_
  refine xr_aload_n (pc := 15) (i := 0) (hI := d_Question_init_15) (hi := rfl) (hl := rfl) ?_
  refine xr_iconst (pc := 16) (hI := d_Question_init_16) (hr := by decide) ?_
  refine xr_putf (pc := 17) (ci := 5) (k := 1) (N := 5) (v9 := 0) (T := xF5) (tF := xT5) (hI := d_Question_init_17) (hw := w_291) rfl xi5 xt5 xn5 (Or.inl rfl) (Nat.le_of_ble_eq_true rfl) (Nat.le_of_ble_eq_true rfl) rfl xfit_z rfl (by decide +kernel) (by decide) (fun _ => (by decide : (0 : Int) ≤ 0 ∧ (0 : Int) ≤ 1)) ?_
  refine xr_aload_n (pc := 20) (i := 0) (hI := d_Question_init_20) (hi := rfl) (hl := rfl) ?_
  refine xr_iconst (pc := 21) (hI := d_Question_init_21) (hr := by decide) ?_
  refine xr_putf (pc := 22) (ci := 5) (k := 2) (N := 5) (v9 := 0) (T := xF5) (tF := xT5) (hI := d_Question_init_22) (hw := w_292) rfl xi5 xt5 xn5 (Or.inl rfl) (Nat.le_of_ble_eq_true rfl) (Nat.le_of_ble_eq_true rfl) rfl xfit_z rfl (by decide +kernel) (by decide) (fun _ => (by decide : (0 : Int) ≤ 0 ∧ (0 : Int) ≤ 1)) ?_
  refine xr_aload_n (pc := 25) (i := 0) (hI := d_Question_init_25) (hi := rfl) (hl := rfl) ?_
  refine xr_iconst (pc := 26) (hI := d_Question_init_26) (hr := by decide) ?_
  refine xr_putf (pc := 27) (ci := 5) (k := 3) (N := 5) (v9 := 0) (T := xF5) (tF := xT5) (hI := d_Question_init_27) (hw := w_293) rfl xi5 xt5 xn5 (Or.inl rfl) (Nat.le_of_ble_eq_true rfl) (Nat.le_of_ble_eq_true rfl) rfl xfit_z rfl (by decide +kernel) (by decide) (fun _ => (by decide : (0 : Int) ≤ 0 ∧ (0 : Int) ≤ 1)) ?_
  refine xr_aload_n (pc := 30) (i := 0) (hI := d_Question_init_30) (hi := rfl) (hl := rfl) ?_
  refine xr_iconst (pc := 31) (hI := d_Question_init_31) (hr := by decide) ?_
  refine xr_putf (pc := 32) (ci := 5) (k := 4) (N := 5) (v9 := 0) (T := xF5) (tF := xT5) (hI := d_Question_init_32) (hw := w_294) rfl xi5 xt5 xn5 (Or.inl rfl) (Nat.le_of_ble_eq_true rfl) (Nat.le_of_ble_eq_true rfl) rfl xfit_i rfl (by decide +kernel) (by decide) (fun z => z) ?_
  show xwp G m_Question_init (d + 217) 35 [xR 37] [] xK42 _ _
  refine xr_return (S := []) (pc := 35) (hI := d_Question_init_35) (hr := rfl) ?_
  exact q
def xK43 : XH := xmkn (xst xK42 32 4 37) 39 13 3 (xdef 13)
theorem cs_19 {G : XG} {d : Nat} {Q : XV → XH → Prop} {X : Nat → XH → Prop} (q : Q xN xK43) : xwp G m_AbstractCollection_init (d + 215) 0 [xR 39] [] xK43 Q X := by
  refine xr_aload_n (pc := 0) (i := 0) (hI := d_AbstractCollection_init_0) (hi := rfl) (hl := rfl) ?_
  refine xr_objInit (pc := 1) (hI := d_AbstractCollection_init_1) w_98 w_46 w_objc (by decide) (Nat.le_add_left_of_le (by decide)) (Nat.le_of_ble_eq_true rfl) ?_
  refine xr_return (S := []) (pc := 4) (hI := d_AbstractCollection_init_4) (hr := rfl) ?_
  exact q
def xK44 : XH := xst xK43 39 2 0
theorem cs_20 {G : XG} {d : Nat} {Q : XV → XH → Prop} {X : Nat → XH → Prop} (q : Q xN xK44) : xwp G m_AbstractList_init (d + 216) 0 [xR 39] [] xK43 Q X := by
  refine xr_aload_n (pc := 0) (i := 0) (hI := d_AbstractList_init_0) (hi := rfl) (hl := rfl) ?_
  refine xq_callI (pc := 1) (index := 1) (K := m_AbstractCollection_init) (As := []) (S := []) (L0 := [xR 39]) (hI := d_AbstractList_init_1) (hK := k_AbstractCollection_init) (hlk := w_95) (hnoM := rfl) (hS8 := Nat.le_of_ble_eq_true rfl) (hb0 := by decide) (hinst := w_96) (hname := rfl) (hret := rfl) (hlen := Nat.le_of_ble_eq_true rfl) (hst := rfl) (hL0 := rfl) ?_
  refine cs_19 ?_
  show xwp G m_AbstractList_init (d + 216) 4 [xR 39] [] _ _ _
  refine xr_aload_n (pc := 4) (i := 0) (hI := d_AbstractList_init_4) (hi := rfl) (hl := rfl) ?_
  refine xr_iconst (pc := 5) (hI := d_AbstractList_init_5) (hr := by decide) ?_
  refine xr_putf (pc := 6) (ci := 13) (k := 2) (N := 3) (v9 := 0) (T := xF13) (tF := xT13) (hI := d_AbstractList_init_6) (hw := w_103) rfl xi13 xt13 xn13 (Or.inl rfl) (Nat.le_of_ble_eq_true rfl) (Nat.le_of_ble_eq_true rfl) rfl xfit_i rfl (by decide +kernel) (by decide) (fun z => z) ?_
  show xwp G m_AbstractList_init (d + 216) 9 [xR 39] [] xK44 _ _
  refine xr_return (S := []) (pc := 9) (hI := d_AbstractList_init_9) (hr := rfl) ?_
  exact q
def xK45 : XH := xst xK44 39 0 (-103)
theorem cs_21 {G : XG} {d : Nat} {Q : XV → XH → Prop} {X : Nat → XH → Prop} (q : Q xN xK45) : xwp G m_ArrayList_init (d + 217) 0 [xR 39] [] xK43 Q X := by
  refine xr_aload_n (pc := 0) (i := 0) (hI := d_ArrayList_init_0) (hi := rfl) (hl := rfl) ?_
  refine xq_callI (pc := 1) (index := 1) (K := m_AbstractList_init) (As := []) (S := []) (L0 := [xR 39]) (hI := d_ArrayList_init_1) (hK := k_AbstractList_init) (hlk := w_92) (hnoM := rfl) (hS8 := Nat.le_of_ble_eq_true rfl) (hb0 := by decide) (hinst := w_93) (hname := rfl) (hret := rfl) (hlen := Nat.le_of_ble_eq_true rfl) (hst := rfl) (hL0 := rfl) ?_
  refine cs_20 ?_
  show xwp G m_ArrayList_init (d + 217) 4 [xR 39] [] _ _ _
  refine xr_aload_n (pc := 4) (i := 0) (hI := d_ArrayList_init_4) (hi := rfl) (hl := rfl) ?_
  refine xr_getstatic (pc := 5) (v := xR (-103)) (hI := d_ArrayList_init_5) w_99 (by decide +kernel) (by exact trivial) ?_
  refine xr_putf (pc := 8) (ci := 13) (k := 0) (N := 3) (v9 := 2) (T := xF13) (tF := xT13) (hI := d_ArrayList_init_8) (hw := w_101) rfl xi13 xt13 xn13 (Or.inl rfl) (Nat.le_of_ble_eq_true rfl) (Nat.le_of_ble_eq_true rfl) rfl (xfit_a _) rfl (by decide +kernel) (by decide) (fun z => z) ?_
  show xwp G m_ArrayList_init (d + 217) 11 [xR 39] [] xK45 _ _
  refine xr_return (S := []) (pc := 11) (hI := d_ArrayList_init_11) (hr := rfl) ?_
  exact q
def xK46 : XH := xst (xst xK45 32 5 39) 32 6 0
def xK47 : XH := xst (xst (xst (xst (xst (xst xK46 32 7 35) 32 8 0) 32 9 0) 32 10 0) 32 11 0) 32 12 0
def xK48 : XH := xst (xst xK47 32 13 0) 32 14 2
theorem cs_22 {G : XG} {d : Nat} {Q : XV → XH → Prop} {X : Nat → XH → Prop} (q : Q xN xK48) : xwp G m_QuestionReader_init (d + 218) 0 [xR 32] [] xK28 Q X := by
  refine xr_aload_n (pc := 0) (i := 0) (hI := d_QuestionReader_init_0) (hi := rfl) (hl := rfl) ?_
  refine xr_objInit (pc := 1) (hI := d_QuestionReader_init_1) w_207 w_46 w_objc (by decide) (Nat.le_add_left_of_le (by decide)) (Nat.le_of_ble_eq_true rfl) ?_
  refine xr_aload_n (pc := 4) (i := 0) (hI := d_QuestionReader_init_4) (hi := rfl) (hl := rfl) ?_
  refine xr_bipush (pc := 5) (hI := d_QuestionReader_init_5) (hr := by decide) (hv := by decide) ?_
  refine xn_newarray (pc := 7) (A := 33) (t := 101) (hI := d_QuestionReader_init_7) rfl w_80 rfl (Nat.le_of_ble_eq_true rfl) (Nat.le_of_ble_eq_true rfl) (by decide) (fun _ => rfl) (xok_z rfl) (by decide) (by decide) (by decide +kernel) (by decide +kernel) (by decide +kernel) ?_
  show xwp G m_QuestionReader_init (d + 218) 9 [xR 32] [xR 33, xR 32] xK29 _ _
  refine xr_putfF (pc := 9) (ci := 6) (k := 0) (N := 15) (v9 := 2) (T := xF6) (tF := xT6) (hI := d_QuestionReader_init_9) (hw := w_306) rfl xi6 xt6 xn6 (Or.inl rfl) (Nat.le_of_ble_eq_true rfl) (Nat.le_of_ble_eq_true rfl) rfl (xfit_a _) rfl rfl rfl (by decide +kernel) (by decide) (fun z => z) ?_
  refine xr_aload_n (pc := 12) (i := 0) (hI := d_QuestionReader_init_12) (hi := rfl) (hl := rfl) ?_
  refine xr_iconst (pc := 13) (hI := d_QuestionReader_init_13) (hr := by decide) ?_
  refine xr_putf (pc := 14) (ci := 6) (k := 1) (N := 15) (v9 := 0) (T := xF6) (tF := xT6) (hI := d_QuestionReader_init_14) (hw := w_307) rfl xi6 xt6 xn6 (Or.inl rfl) (Nat.le_of_ble_eq_true rfl) (Nat.le_of_ble_eq_true rfl) rfl xfit_i rfl (by decide +kernel) (by decide) (fun z => z) ?_
  refine xr_aload_n (pc := 17) (i := 0) (hI := d_QuestionReader_init_17) (hi := rfl) (hl := rfl) ?_
  refine xn_new (pc := 18) (A := 34) (ci := 13) (N := 3) (T := xF13) (tF := xT13) (hI := d_QuestionReader_init_18) w_208 xj13 w_6 rfl xi13 xt13 (Nat.le_of_ble_eq_true rfl) xd713 xdf13 (by decide +kernel) (by decide +kernel) (by decide +kernel) ?_
  show xwp G m_QuestionReader_init (d + 218) 21 [xR 32] [xR 34, xR 32] xK30 _ _
  refine xr_dup (pc := 21) (hI := d_QuestionReader_init_21) (hv := rfl) ?_
  refine xq_callI (pc := 22) (index := 21) (K := m_ArrayList_init) (As := []) (S := [xR 34, xR 32]) (L0 := [xR 34]) (hI := d_QuestionReader_init_22) (hK := k_ArrayList_init) (hlk := w_209) (hnoM := rfl) (hS8 := Nat.le_of_ble_eq_true rfl) (hb0 := by decide) (hinst := w_90) (hname := rfl) (hret := rfl) (hlen := Nat.le_of_ble_eq_true rfl) (hst := rfl) (hL0 := rfl) ?_
  refine cs_13 ?_
  show xwp G m_QuestionReader_init (d + 218) 25 [xR 32] [xR 34, xR 32] _ _ _
  refine xr_putfF (pc := 25) (ci := 6) (k := 2) (N := 15) (v9 := 2) (T := xF6) (tF := xT6) (hI := d_QuestionReader_init_25) (hw := w_308) rfl xi6 xt6 xn6 (Or.inl rfl) (Nat.le_of_ble_eq_true rfl) (Nat.le_of_ble_eq_true rfl) rfl (xfit_o _) rfl rfl rfl (by decide +kernel) (by decide) (fun z => z) ?_
  refine xr_aload_n (pc := 28) (i := 0) (hI := d_QuestionReader_init_28) (hi := rfl) (hl := rfl) ?_
  refine xn_new (pc := 29) (A := 35) (ci := 4) (N := 13) (T := xF4) (tF := xT4) (hI := d_QuestionReader_init_29) w_210 xj4 w_10 rfl xi4 xt4 (Nat.le_of_ble_eq_true rfl) xd74 xdf4 (by decide +kernel) (by decide +kernel) (by decide +kernel) ?_
  show xwp G m_QuestionReader_init (d + 218) 32 [xR 32] [xR 35, xR 32] xK33 _ _
  refine xr_dup (pc := 32) (hI := d_QuestionReader_init_32) (hv := rfl) ?_
  refine xr_iconst (pc := 33) (hI := d_QuestionReader_init_33) (hr := by decide) ?_
  refine xr_iconst (pc := 34) (hI := d_QuestionReader_init_34) (hr := by decide) ?_
  refine xr_iconst (pc := 35) (hI := d_QuestionReader_init_35) (hr := by decide) ?_
  refine xr_iconst (pc := 36) (hI := d_QuestionReader_init_36) (hr := by decide) ?_
  refine xr_iconst (pc := 37) (hI := d_QuestionReader_init_37) (hr := by decide) ?_
  refine xr_iconst (pc := 38) (hI := d_QuestionReader_init_38) (hr := by decide) ?_
  refine xn_newarray (pc := 39) (A := 36) (t := 101) (hI := d_QuestionReader_init_39) rfl w_80 rfl (Nat.le_of_ble_eq_true rfl) (Nat.le_of_ble_eq_true rfl) (by decide) (fun _ => rfl) (xok_z rfl) (by decide) (by decide) (by decide +kernel) (by decide +kernel) (by decide +kernel) ?_
  show xwp G m_QuestionReader_init (d + 218) 41 [xR 32] [xR 36, xI 3, xI 0, xI 2, xI 0, xI 0, xR 35, xR 35, xR 32] xK34 _ _
  refine xq_callI (pc := 41) (index := 28) (K := m_Part_init) (As := [xI 0, xI 0, xI 2, xI 0, xI 3, xR 36]) (S := [xR 35, xR 32]) (L0 := [xR 35, xI 0, xI 0, xI 2, xI 0, xI 3, xR 36]) (hI := d_QuestionReader_init_41) (hK := k_Part_init) (hlk := w_212) (hnoM := rfl) (hS8 := Nat.le_of_ble_eq_true rfl) (hb0 := by decide) (hinst := w_213) (hname := rfl) (hret := rfl) (hlen := Nat.le_of_ble_eq_true rfl) (hst := rfl) (hL0 := rfl) ?_
  refine cs_14 ?_
  show xwp G m_QuestionReader_init (d + 218) 44 [xR 32] [xR 35, xR 32] _ _ _
  refine xr_putfF (pc := 44) (ci := 6) (k := 3) (N := 15) (v9 := 2) (T := xF6) (tF := xT6) (hI := d_QuestionReader_init_44) (hw := w_309) rfl xi6 xt6 xn6 (Or.inl rfl) (Nat.le_of_ble_eq_true rfl) (Nat.le_of_ble_eq_true rfl) rfl (xfit_o _) rfl rfl rfl (by decide +kernel) (by decide) (fun z => z) ?_
  refine xr_aload_n (pc := 47) (i := 0) (hI := d_QuestionReader_init_47) (hi := rfl) (hl := rfl) ?_
  refine xn_new (pc := 48) (A := 37) (ci := 5) (N := 5) (T := xF5) (tF := xT5) (hI := d_QuestionReader_init_48) w_278 xj5 w_11 rfl xi5 xt5 (Nat.le_of_ble_eq_true rfl) xd75 xdf5 (by decide +kernel) (by decide +kernel) (by decide +kernel) ?_
  show xwp G m_QuestionReader_init (d + 218) 51 [xR 32] [xR 37, xR 32] xK38 _ _
  refine xr_dup (pc := 51) (hI := d_QuestionReader_init_51) (hv := rfl) ?_
  refine xq_callIN (pc := 52) (index := 37) (K := m_Question_init) (As := []) (S := [xR 37, xR 32]) (L0 := [xR 37]) (hI := d_QuestionReader_init_52) (hK := k_Question_init) (hlk := w_280) (hnoM := rfl) (hS8 := Nat.le_of_ble_eq_true rfl) (hb0 := by decide) (hinst := w_281) (hname := rfl) (hret := rfl) (hlen := Nat.le_of_ble_eq_true rfl) (hst := rfl) (hL0 := rfl) ?_
  refine cs_18 ?_
  show xwp G m_QuestionReader_init (d + 218) 55 [xR 32] [xR 37, xR 32] _ _ _
  refine xr_putfF (pc := 55) (ci := 6) (k := 4) (N := 15) (v9 := 2) (T := xF6) (tF := xT6) (hI := d_QuestionReader_init_55) (hw := w_310) rfl xi6 xt6 xn6 (Or.inl rfl) (Nat.le_of_ble_eq_true rfl) (Nat.le_of_ble_eq_true rfl) rfl (xfit_o _) rfl rfl rfl (by decide +kernel) (by decide) (fun z => z) ?_
  refine xr_aload_n (pc := 58) (i := 0) (hI := d_QuestionReader_init_58) (hi := rfl) (hl := rfl) ?_
  refine xn_new (pc := 59) (A := 39) (ci := 13) (N := 3) (T := xF13) (tF := xT13) (hI := d_QuestionReader_init_59) w_208 xj13 w_6 rfl xi13 xt13 (Nat.le_of_ble_eq_true rfl) xd713 xdf13 (by decide +kernel) (by decide +kernel) (by decide +kernel) ?_
  show xwp G m_QuestionReader_init (d + 218) 62 [xR 32] [xR 39, xR 32] xK43 _ _
  refine xr_dup (pc := 62) (hI := d_QuestionReader_init_62) (hv := rfl) ?_
  refine xq_callI (pc := 63) (index := 21) (K := m_ArrayList_init) (As := []) (S := [xR 39, xR 32]) (L0 := [xR 39]) (hI := d_QuestionReader_init_63) (hK := k_ArrayList_init) (hlk := w_209) (hnoM := rfl) (hS8 := Nat.le_of_ble_eq_true rfl) (hb0 := by decide) (hinst := w_90) (hname := rfl) (hret := rfl) (hlen := Nat.le_of_ble_eq_true rfl) (hst := rfl) (hL0 := rfl) ?_
  refine cs_21 ?_
  show xwp G m_QuestionReader_init (d + 218) 66 [xR 32] [xR 39, xR 32] _ _ _
  refine xr_putf (pc := 66) (ci := 6) (k := 5) (N := 15) (v9 := 2) (T := xF6) (tF := xT6) (hI := d_QuestionReader_init_66) (hw := w_312) rfl xi6 xt6 xn6 (Or.inl rfl) (Nat.le_of_ble_eq_true rfl) (Nat.le_of_ble_eq_true rfl) rfl (xfit_o _) rfl (by decide +kernel) (by decide) (fun z => z) ?_
  refine xr_aload_n (pc := 69) (i := 0) (hI := d_QuestionReader_init_69) (hi := rfl) (hl := rfl) ?_
  refine xr_iconst (pc := 70) (hI := d_QuestionReader_init_70) (hr := by decide) ?_
  refine xr_putf (pc := 71) (ci := 6) (k := 6) (N := 15) (v9 := 0) (T := xF6) (tF := xT6) (hI := d_QuestionReader_init_71) (hw := w_314) rfl xi6 xt6 xn6 (Or.inl rfl) (Nat.le_of_ble_eq_true rfl) (Nat.le_of_ble_eq_true rfl) rfl xfit_i rfl (by decide +kernel) (by decide) (fun z => z) ?_
  refine xr_aload_n (pc := 74) (i := 0) (hI := d_QuestionReader_init_74) (hi := rfl) (hl := rfl) ?_
  refine xr_aload_n (pc := 75) (i := 0) (hI := d_QuestionReader_init_75) (hi := rfl) (hl := rfl) ?_
  show xwp G m_QuestionReader_init (d + 218) 76 [xR 32] [xR 32, xR 32] xK46 _ _
  refine xg_getf (pc := 76) (ci := 6) (k := 3) (N := 15) (v9 := 2) (v := 35) (T := xF6) (hI := d_QuestionReader_init_76) (hw := w_309) rfl xi6 (Or.inl rfl) (Nat.le_of_ble_eq_true rfl) (Nat.le_of_ble_eq_true rfl) rfl (by decide +kernel) (by decide +kernel) (fun _ => ?_)
  refine xr_putf (pc := 79) (ci := 6) (k := 7) (N := 15) (v9 := 2) (T := xF6) (tF := xT6) (hI := d_QuestionReader_init_79) (hw := w_315) rfl xi6 xt6 xn6 (Or.inl rfl) (Nat.le_of_ble_eq_true rfl) (Nat.le_of_ble_eq_true rfl) rfl (xfit_o _) rfl (by decide +kernel) (by decide) (fun z => z) ?_
  refine xr_aload_n (pc := 82) (i := 0) (hI := d_QuestionReader_init_82) (hi := rfl) (hl := rfl) ?_
  refine xr_iconst (pc := 83) (hI := d_QuestionReader_init_83) (hr := by decide) ?_
  refine xr_putf (pc := 84) (ci := 6) (k := 8) (N := 15) (v9 := 0) (T := xF6) (tF := xT6) (hI := d_QuestionReader_init_84) (hw := w_316) rfl xi6 xt6 xn6 (Or.inl rfl) (Nat.le_of_ble_eq_true rfl) (Nat.le_of_ble_eq_true rfl) rfl xfit_i rfl (by decide +kernel) (by decide) (fun z => z) ?_
  refine xr_aload_n (pc := 87) (i := 0) (hI := d_QuestionReader_init_87) (hi := rfl) (hl := rfl) ?_
  refine xr_iconst (pc := 88) (hI := d_QuestionReader_init_88) (hr := by decide) ?_
  refine xr_putf (pc := 89) (ci := 6) (k := 9) (N := 15) (v9 := 0) (T := xF6) (tF := xT6) (hI := d_QuestionReader_init_89) (hw := w_317) rfl xi6 xt6 xn6 (Or.inl rfl) (Nat.le_of_ble_eq_true rfl) (Nat.le_of_ble_eq_true rfl) rfl xfit_i rfl (by decide +kernel) (by decide) (fun z => z) ?_
  refine xr_aload_n (pc := 92) (i := 0) (hI := d_QuestionReader_init_92) (hi := rfl) (hl := rfl) ?_
  refine xr_iconst (pc := 93) (hI := d_QuestionReader_init_93) (hr := by decide) ?_
  refine xr_putf (pc := 94) (ci := 6) (k := 10) (N := 15) (v9 := 0) (T := xF6) (tF := xT6) (hI := d_QuestionReader_init_94) (hw := w_318) rfl xi6 xt6 xn6 (Or.inl rfl) (Nat.le_of_ble_eq_true rfl) (Nat.le_of_ble_eq_true rfl) rfl xfit_i rfl (by decide +kernel) (by decide) (fun z => z) ?_
  refine xr_aload_n (pc := 97) (i := 0) (hI := d_QuestionReader_init_97) (hi := rfl) (hl := rfl) ?_
  refine xr_lconst (pc := 98) (z := 0) (hI := d_QuestionReader_init_98) (hr := by decide) (hv := by decide) ?_
  refine xr_putf (pc := 99) (ci := 6) (k := 11) (N := 15) (v9 := 1) (T := xF6) (tF := xT6) (hI := d_QuestionReader_init_99) (hw := w_319) rfl xi6 xt6 xn6 (Or.inl rfl) (Nat.le_of_ble_eq_true rfl) (Nat.le_of_ble_eq_true rfl) rfl xfit_l rfl (by decide +kernel) (by decide) (fun z => z) ?_
  refine xr_aload_n (pc := 102) (i := 0) (hI := d_QuestionReader_init_102) (hi := rfl) (hl := rfl) ?_
  refine xr_iconst (pc := 103) (hI := d_QuestionReader_init_103) (hr := by decide) ?_
  refine xr_putf (pc := 104) (ci := 6) (k := 12) (N := 15) (v9 := 0) (T := xF6) (tF := xT6) (hI := d_QuestionReader_init_104) (hw := w_320) rfl xi6 xt6 xn6 (Or.inl rfl) (Nat.le_of_ble_eq_true rfl) (Nat.le_of_ble_eq_true rfl) rfl xfit_i rfl (by decide +kernel) (by decide) (fun z => z) ?_
  show xwp G m_QuestionReader_init (d + 218) 107 [xR 32] [] xK47 _ _
  refine xr_aload_n (pc := 107) (i := 0) (hI := d_QuestionReader_init_107) (hi := rfl) (hl := rfl) ?_
  refine xr_iconst (pc := 108) (hI := d_QuestionReader_init_108) (hr := by decide) ?_
  refine xr_putf (pc := 109) (ci := 6) (k := 13) (N := 15) (v9 := 0) (T := xF6) (tF := xT6) (hI := d_QuestionReader_init_109) (hw := w_321) rfl xi6 xt6 xn6 (Or.inl rfl) (Nat.le_of_ble_eq_true rfl) (Nat.le_of_ble_eq_true rfl) rfl xfit_i rfl (by decide +kernel) (by decide) (fun z => z) ?_
  refine xr_aload_n (pc := 112) (i := 0) (hI := d_QuestionReader_init_112) (hi := rfl) (hl := rfl) ?_
  refine xr_iconst (pc := 113) (hI := d_QuestionReader_init_113) (hr := by decide) ?_
  refine xr_putf (pc := 114) (ci := 6) (k := 14) (N := 15) (v9 := 0) (T := xF6) (tF := xT6) (hI := d_QuestionReader_init_114) (hw := w_322) rfl xi6 xt6 xn6 (Or.inl rfl) (Nat.le_of_ble_eq_true rfl) (Nat.le_of_ble_eq_true rfl) rfl xfit_i rfl (by decide +kernel) (by decide) (fun z => z) ?_
  show xwp G m_QuestionReader_init (d + 218) 117 [xR 32] [] xK48 _ _
  refine xr_return (S := []) (pc := 117) (hI := d_QuestionReader_init_117) (hr := rfl) ?_
  exact q
def xK49 : XH := xmkn (xst xK48 0 3 32) 40 1 6 (xdef 1)
def xK50 : XH := xmkn xK49 41 2 4 (xdef 2)
def xK51 : XH := xmkn xK50 42 100 4800 (fun _ => 0)
def xK52 : XH := xmkn (xst xK51 41 0 42) 43 100 4800 (fun _ => 0)
def xK53 : XH := xmkn (xst xK52 41 1 43) 44 100 2 (fun _ => 0)
def xK54 : XH := xmkn (xst xK53 41 2 44) 45 3 6 (xdef 3)
def xK55 : XH := xmkn xK54 46 101 40 (fun _ => 0)
def xK56 : XH := xmkn (xst xK55 45 0 46) 47 100 40 (fun _ => 0)
def xK57 : XH := xst (xst (xst (xst (xst xK56 45 1 47) 45 2 0) 45 3 0) 45 4 0) 45 5 (-1)
theorem cs_23 {G : XG} {d : Nat} {Q : XV → XH → Prop} {X : Nat → XH → Prop} (q : Q xN xK57) : xwp G m_Match_init (d + 216) 0 [xR 45] [] xK54 Q X := by
  refine xr_aload_n (pc := 0) (i := 0) (hI := d_Match_init_0) (hi := rfl) (hl := rfl) ?_
  refine xr_objInit (pc := 1) (hI := d_Match_init_1) w_371 w_46 w_objc (by decide) (Nat.le_add_left_of_le (by decide)) (Nat.le_of_ble_eq_true rfl) ?_
  refine xr_aload_n (pc := 4) (i := 0) (hI := d_Match_init_4) (hi := rfl) (hl := rfl) ?_
  refine xr_bipush (pc := 5) (hI := d_Match_init_5) (hr := by decide) (hv := by decide) ?_
  refine xn_newarray (pc := 7) (A := 46) (t := 101) (hI := d_Match_init_7) rfl w_80 rfl (Nat.le_of_ble_eq_true rfl) (Nat.le_of_ble_eq_true rfl) (by decide) (fun _ => rfl) (xok_z rfl) (by decide) (by decide) (by decide +kernel) (by decide +kernel) (by decide +kernel) ?_
  show xwp G m_Match_init (d + 216) 9 [xR 45] [xR 46, xR 45] xK55 _ _
  refine xr_putfF (pc := 9) (ci := 3) (k := 0) (N := 6) (v9 := 2) (T := xF3) (tF := xT3) (hI := d_Match_init_9) (hw := w_372) rfl xi3 xt3 xn3 (Or.inl rfl) (Nat.le_of_ble_eq_true rfl) (Nat.le_of_ble_eq_true rfl) rfl (xfit_a _) rfl rfl rfl (by decide +kernel) (by decide) (fun z => z) ?_
  refine xr_aload_n (pc := 12) (i := 0) (hI := d_Match_init_12) (hi := rfl) (hl := rfl) ?_
  refine xr_bipush (pc := 13) (hI := d_Match_init_13) (hr := by decide) (hv := by decide) ?_
  refine xn_newarray (pc := 15) (A := 47) (t := 100) (hI := d_Match_init_15) rfl w_79 rfl (Nat.le_of_ble_eq_true rfl) (Nat.le_of_ble_eq_true rfl) (by decide) (fun _ => rfl) (xok_z rfl) (by decide) (by decide) (by decide +kernel) (by decide +kernel) (by decide +kernel) ?_
  show xwp G m_Match_init (d + 216) 17 [xR 45] [xR 47, xR 45] xK56 _ _
  refine xr_putfF (pc := 17) (ci := 3) (k := 1) (N := 6) (v9 := 2) (T := xF3) (tF := xT3) (hI := d_Match_init_17) (hw := w_373) rfl xi3 xt3 xn3 (Or.inl rfl) (Nat.le_of_ble_eq_true rfl) (Nat.le_of_ble_eq_true rfl) rfl (xfit_a _) rfl rfl rfl (by decide +kernel) (by decide) (fun z => z) ?_
  refine xr_aload_n (pc := 20) (i := 0) (hI := d_Match_init_20) (hi := rfl) (hl := rfl) ?_
  refine xr_iconst (pc := 21) (hI := d_Match_init_21) (hr := by decide) ?_
  refine xr_putf (pc := 22) (ci := 3) (k := 2) (N := 6) (v9 := 0) (T := xF3) (tF := xT3) (hI := d_Match_init_22) (hw := w_374) rfl xi3 xt3 xn3 (Or.inl rfl) (Nat.le_of_ble_eq_true rfl) (Nat.le_of_ble_eq_true rfl) rfl xfit_i rfl (by decide +kernel) (by decide) (fun z => z) ?_
  refine xr_aload_n (pc := 25) (i := 0) (hI := d_Match_init_25) (hi := rfl) (hl := rfl) ?_
  refine xr_iconst (pc := 26) (hI := d_Match_init_26) (hr := by decide) ?_
  refine xr_putf (pc := 27) (ci := 3) (k := 3) (N := 6) (v9 := 0) (T := xF3) (tF := xT3) (hI := d_Match_init_27) (hw := w_375) rfl xi3 xt3 xn3 (Or.inl rfl) (Nat.le_of_ble_eq_true rfl) (Nat.le_of_ble_eq_true rfl) rfl xfit_i rfl (by decide +kernel) (by decide) (fun z => z) ?_
  refine xr_aload_n (pc := 30) (i := 0) (hI := d_Match_init_30) (hi := rfl) (hl := rfl) ?_
  refine xr_iconst (pc := 31) (hI := d_Match_init_31) (hr := by decide) ?_
  refine xr_putf (pc := 32) (ci := 3) (k := 4) (N := 6) (v9 := 0) (T := xF3) (tF := xT3) (hI := d_Match_init_32) (hw := w_376) rfl xi3 xt3 xn3 (Or.inl rfl) (Nat.le_of_ble_eq_true rfl) (Nat.le_of_ble_eq_true rfl) rfl xfit_i rfl (by decide +kernel) (by decide) (fun z => z) ?_
  refine xr_aload_n (pc := 35) (i := 0) (hI := d_Match_init_35) (hi := rfl) (hl := rfl) ?_
  refine xr_iconst (pc := 36) (hI := d_Match_init_36) (hr := by decide) ?_
  refine xr_putf (pc := 37) (ci := 3) (k := 5) (N := 6) (v9 := 0) (T := xF3) (tF := xT3) (hI := d_Match_init_37) (hw := w_378) rfl xi3 xt3 xn3 (Or.inl rfl) (Nat.le_of_ble_eq_true rfl) (Nat.le_of_ble_eq_true rfl) rfl xfit_i rfl (by decide +kernel) (by decide) (fun z => z) ?_
  show xwp G m_Match_init (d + 216) 40 [xR 45] [] xK57 _ _
  refine xr_return (S := []) (pc := 40) (hI := d_Match_init_40) (hr := rfl) ?_
  exact q
def xK58 : XH := xst xK57 41 3 45
theorem cs_24 {G : XG} {d : Nat} {Q : XV → XH → Prop} {X : Nat → XH → Prop} (q : Q xN xK58) : xwp G m_Fits_init (d + 217) 0 [xR 41] [] xK50 Q X := by
  refine xr_aload_n (pc := 0) (i := 0) (hI := d_Fits_init_0) (hi := rfl) (hl := rfl) ?_
  refine xr_objInit (pc := 1) (hI := d_Fits_init_1) w_365 w_46 w_objc (by decide) (Nat.le_add_left_of_le (by decide)) (Nat.le_of_ble_eq_true rfl) ?_
  refine xr_aload_n (pc := 4) (i := 0) (hI := d_Fits_init_4) (hi := rfl) (hl := rfl) ?_
  refine xr_sipush (pc := 5) (hI := d_Fits_init_5) (hr := by decide) (hv := by decide) ?_
  refine xn_newarray (pc := 8) (A := 42) (t := 100) (hI := d_Fits_init_8) rfl w_79 rfl (Nat.le_of_ble_eq_true rfl) (Nat.le_of_ble_eq_true rfl) (by decide) (fun _ => rfl) (xok_z rfl) (by decide) (by decide) (by decide +kernel) (by decide +kernel) (by decide +kernel) ?_
  show xwp G m_Fits_init (d + 217) 10 [xR 41] [xR 42, xR 41] xK51 _ _
  refine xr_putfF (pc := 10) (ci := 2) (k := 0) (N := 4) (v9 := 2) (T := xF2) (tF := xT2) (hI := d_Fits_init_10) (hw := w_393) rfl xi2 xt2 xn2 (Or.inl rfl) (Nat.le_of_ble_eq_true rfl) (Nat.le_of_ble_eq_true rfl) rfl (xfit_a _) rfl rfl rfl (by decide +kernel) (by decide) (fun z => z) ?_
  refine xr_aload_n (pc := 13) (i := 0) (hI := d_Fits_init_13) (hi := rfl) (hl := rfl) ?_
  refine xr_sipush (pc := 14) (hI := d_Fits_init_14) (hr := by decide) (hv := by decide) ?_
  refine xn_newarray (pc := 17) (A := 43) (t := 100) (hI := d_Fits_init_17) rfl w_79 rfl (Nat.le_of_ble_eq_true rfl) (Nat.le_of_ble_eq_true rfl) (by decide) (fun _ => rfl) (xok_z rfl) (by decide) (by decide) (by decide +kernel) (by decide +kernel) (by decide +kernel) ?_
  show xwp G m_Fits_init (d + 217) 19 [xR 41] [xR 43, xR 41] xK52 _ _
  refine xr_putfF (pc := 19) (ci := 2) (k := 1) (N := 4) (v9 := 2) (T := xF2) (tF := xT2) (hI := d_Fits_init_19) (hw := w_394) rfl xi2 xt2 xn2 (Or.inl rfl) (Nat.le_of_ble_eq_true rfl) (Nat.le_of_ble_eq_true rfl) rfl (xfit_a _) rfl rfl rfl (by decide +kernel) (by decide) (fun z => z) ?_
  refine xr_aload_n (pc := 22) (i := 0) (hI := d_Fits_init_22) (hi := rfl) (hl := rfl) ?_
  refine xr_iconst (pc := 23) (hI := d_Fits_init_23) (hr := by decide) ?_
  refine xn_newarray (pc := 24) (A := 44) (t := 100) (hI := d_Fits_init_24) rfl w_79 rfl (Nat.le_of_ble_eq_true rfl) (Nat.le_of_ble_eq_true rfl) (by decide) (fun _ => rfl) (xok_z rfl) (by decide) (by decide) (by decide +kernel) (by decide +kernel) (by decide +kernel) ?_
  show xwp G m_Fits_init (d + 217) 26 [xR 41] [xR 44, xR 41] xK53 _ _
  refine xr_putfF (pc := 26) (ci := 2) (k := 2) (N := 4) (v9 := 2) (T := xF2) (tF := xT2) (hI := d_Fits_init_26) (hw := w_395) rfl xi2 xt2 xn2 (Or.inl rfl) (Nat.le_of_ble_eq_true rfl) (Nat.le_of_ble_eq_true rfl) rfl (xfit_a _) rfl rfl rfl (by decide +kernel) (by decide) (fun z => z) ?_
  refine xr_aload_n (pc := 29) (i := 0) (hI := d_Fits_init_29) (hi := rfl) (hl := rfl) ?_
  refine xn_new (pc := 30) (A := 45) (ci := 3) (N := 6) (T := xF3) (tF := xT3) (hI := d_Fits_init_30) w_366 xj3 w_14 rfl xi3 xt3 (Nat.le_of_ble_eq_true rfl) xd73 xdf3 (by decide +kernel) (by decide +kernel) (by decide +kernel) ?_
  show xwp G m_Fits_init (d + 217) 33 [xR 41] [xR 45, xR 41] xK54 _ _
  refine xr_dup (pc := 33) (hI := d_Fits_init_33) (hv := rfl) ?_
  refine xq_callIN (pc := 34) (index := 23) (K := m_Match_init) (As := []) (S := [xR 45, xR 41]) (L0 := [xR 45]) (hI := d_Fits_init_34) (hK := k_Match_init) (hlk := w_368) (hnoM := rfl) (hS8 := Nat.le_of_ble_eq_true rfl) (hb0 := by decide) (hinst := w_369) (hname := rfl) (hret := rfl) (hlen := Nat.le_of_ble_eq_true rfl) (hst := rfl) (hL0 := rfl) ?_
  refine cs_23 ?_
  show xwp G m_Fits_init (d + 217) 37 [xR 41] [xR 45, xR 41] _ _ _
  refine xr_putfF (pc := 37) (ci := 2) (k := 3) (N := 4) (v9 := 2) (T := xF2) (tF := xT2) (hI := d_Fits_init_37) (hw := w_396) rfl xi2 xt2 xn2 (Or.inl rfl) (Nat.le_of_ble_eq_true rfl) (Nat.le_of_ble_eq_true rfl) rfl (xfit_o _) rfl rfl rfl (by decide +kernel) (by decide) (fun z => z) ?_
  show xwp G m_Fits_init (d + 217) 40 [xR 41] [] xK58 _ _
  refine xr_return (S := []) (pc := 40) (hI := d_Fits_init_40) (hr := rfl) ?_
  exact q
def xK59 : XH := xmkn (xst xK58 40 0 41) 48 102 2400 (fun _ => 0)
def xK60 : XH := xmkn (xst xK59 40 1 48) 49 100 2400 (fun _ => 0)
def xK61 : XH := xmkn (xst xK60 40 2 49) 50 100 60 (fun _ => 0)
def xK62 : XH := xmkn (xst xK61 40 3 50) 51 100 60 (fun _ => 0)
def xK63 : XH := xst (xst xK62 40 4 51) 40 5 0
theorem cs_25 {G : XG} {d : Nat} {Q : XV → XH → Prop} {X : Nat → XH → Prop} (q : Q xN xK63) : xwp G m_Findings_init (d + 218) 0 [xR 40] [] xK49 Q X := by
  refine xr_aload_n (pc := 0) (i := 0) (hI := d_Findings_init_0) (hi := rfl) (hl := rfl) ?_
  refine xr_objInit (pc := 1) (hI := d_Findings_init_1) w_359 w_46 w_objc (by decide) (Nat.le_add_left_of_le (by decide)) (Nat.le_of_ble_eq_true rfl) ?_
  refine xr_aload_n (pc := 4) (i := 0) (hI := d_Findings_init_4) (hi := rfl) (hl := rfl) ?_
  refine xn_new (pc := 5) (A := 41) (ci := 2) (N := 4) (T := xF2) (tF := xT2) (hI := d_Findings_init_5) w_360 xj2 w_13 rfl xi2 xt2 (Nat.le_of_ble_eq_true rfl) xd72 xdf2 (by decide +kernel) (by decide +kernel) (by decide +kernel) ?_
  show xwp G m_Findings_init (d + 218) 8 [xR 40] [xR 41, xR 40] xK50 _ _
  refine xr_dup (pc := 8) (hI := d_Findings_init_8) (hv := rfl) ?_
  refine xq_callIN (pc := 9) (index := 11) (K := m_Fits_init) (As := []) (S := [xR 41, xR 40]) (L0 := [xR 41]) (hI := d_Findings_init_9) (hK := k_Fits_init) (hlk := w_362) (hnoM := rfl) (hS8 := Nat.le_of_ble_eq_true rfl) (hb0 := by decide) (hinst := w_363) (hname := rfl) (hret := rfl) (hlen := Nat.le_of_ble_eq_true rfl) (hst := rfl) (hL0 := rfl) ?_
  refine cs_24 ?_
  show xwp G m_Findings_init (d + 218) 12 [xR 40] [xR 41, xR 40] _ _ _
  refine xr_putfF (pc := 12) (ci := 1) (k := 0) (N := 6) (v9 := 2) (T := xF1) (tF := xT1) (hI := d_Findings_init_12) (hw := w_406) rfl xi1 xt1 xn1 (Or.inl rfl) (Nat.le_of_ble_eq_true rfl) (Nat.le_of_ble_eq_true rfl) rfl (xfit_o _) rfl rfl rfl (by decide +kernel) (by decide) (fun z => z) ?_
  refine xr_aload_n (pc := 15) (i := 0) (hI := d_Findings_init_15) (hi := rfl) (hl := rfl) ?_
  refine xr_sipush (pc := 16) (hI := d_Findings_init_16) (hr := by decide) (hv := by decide) ?_
  refine xn_newarray (pc := 19) (A := 48) (t := 102) (hI := d_Findings_init_19) rfl w_427 rfl (Nat.le_of_ble_eq_true rfl) (Nat.le_of_ble_eq_true rfl) (by decide) (fun _ => rfl) (xok_z rfl) (by decide) (by decide) (by decide +kernel) (by decide +kernel) (by decide +kernel) ?_
  show xwp G m_Findings_init (d + 218) 21 [xR 40] [xR 48, xR 40] xK59 _ _
  refine xr_putfF (pc := 21) (ci := 1) (k := 1) (N := 6) (v9 := 2) (T := xF1) (tF := xT1) (hI := d_Findings_init_21) (hw := w_408) rfl xi1 xt1 xn1 (Or.inl rfl) (Nat.le_of_ble_eq_true rfl) (Nat.le_of_ble_eq_true rfl) rfl (xfit_a _) rfl rfl rfl (by decide +kernel) (by decide) (fun z => z) ?_
  refine xr_aload_n (pc := 24) (i := 0) (hI := d_Findings_init_24) (hi := rfl) (hl := rfl) ?_
  refine xr_sipush (pc := 25) (hI := d_Findings_init_25) (hr := by decide) (hv := by decide) ?_
  refine xn_newarray (pc := 28) (A := 49) (t := 100) (hI := d_Findings_init_28) rfl w_79 rfl (Nat.le_of_ble_eq_true rfl) (Nat.le_of_ble_eq_true rfl) (by decide) (fun _ => rfl) (xok_z rfl) (by decide) (by decide) (by decide +kernel) (by decide +kernel) (by decide +kernel) ?_
  show xwp G m_Findings_init (d + 218) 30 [xR 40] [xR 49, xR 40] xK60 _ _
  refine xr_putfF (pc := 30) (ci := 1) (k := 2) (N := 6) (v9 := 2) (T := xF1) (tF := xT1) (hI := d_Findings_init_30) (hw := w_409) rfl xi1 xt1 xn1 (Or.inl rfl) (Nat.le_of_ble_eq_true rfl) (Nat.le_of_ble_eq_true rfl) rfl (xfit_a _) rfl rfl rfl (by decide +kernel) (by decide) (fun z => z) ?_
  refine xr_aload_n (pc := 33) (i := 0) (hI := d_Findings_init_33) (hi := rfl) (hl := rfl) ?_
  refine xr_bipush (pc := 34) (hI := d_Findings_init_34) (hr := by decide) (hv := by decide) ?_
  refine xn_newarray (pc := 36) (A := 50) (t := 100) (hI := d_Findings_init_36) rfl w_79 rfl (Nat.le_of_ble_eq_true rfl) (Nat.le_of_ble_eq_true rfl) (by decide) (fun _ => rfl) (xok_z rfl) (by decide) (by decide) (by decide +kernel) (by decide +kernel) (by decide +kernel) ?_
  show xwp G m_Findings_init (d + 218) 38 [xR 40] [xR 50, xR 40] xK61 _ _
  refine xr_putfF (pc := 38) (ci := 1) (k := 3) (N := 6) (v9 := 2) (T := xF1) (tF := xT1) (hI := d_Findings_init_38) (hw := w_410) rfl xi1 xt1 xn1 (Or.inl rfl) (Nat.le_of_ble_eq_true rfl) (Nat.le_of_ble_eq_true rfl) rfl (xfit_a _) rfl rfl rfl (by decide +kernel) (by decide) (fun z => z) ?_
  refine xr_aload_n (pc := 41) (i := 0) (hI := d_Findings_init_41) (hi := rfl) (hl := rfl) ?_
  refine xr_bipush (pc := 42) (hI := d_Findings_init_42) (hr := by decide) (hv := by decide) ?_
  refine xn_newarray (pc := 44) (A := 51) (t := 100) (hI := d_Findings_init_44) rfl w_79 rfl (Nat.le_of_ble_eq_true rfl) (Nat.le_of_ble_eq_true rfl) (by decide) (fun _ => rfl) (xok_z rfl) (by decide) (by decide) (by decide +kernel) (by decide +kernel) (by decide +kernel) ?_
  show xwp G m_Findings_init (d + 218) 46 [xR 40] [xR 51, xR 40] xK62 _ _
  refine xr_putfF (pc := 46) (ci := 1) (k := 4) (N := 6) (v9 := 2) (T := xF1) (tF := xT1) (hI := d_Findings_init_46) (hw := w_411) rfl xi1 xt1 xn1 (Or.inl rfl) (Nat.le_of_ble_eq_true rfl) (Nat.le_of_ble_eq_true rfl) rfl (xfit_a _) rfl rfl rfl (by decide +kernel) (by decide) (fun z => z) ?_
  refine xr_aload_n (pc := 49) (i := 0) (hI := d_Findings_init_49) (hi := rfl) (hl := rfl) ?_
  refine xr_iconst (pc := 50) (hI := d_Findings_init_50) (hr := by decide) ?_
  refine xr_putf (pc := 51) (ci := 1) (k := 5) (N := 6) (v9 := 0) (T := xF1) (tF := xT1) (hI := d_Findings_init_51) (hw := w_412) rfl xi1 xt1 xn1 (Or.inl rfl) (Nat.le_of_ble_eq_true rfl) (Nat.le_of_ble_eq_true rfl) rfl xfit_i rfl (by decide +kernel) (by decide) (fun z => z) ?_
  show xwp G m_Findings_init (d + 218) 54 [xR 40] [] xK63 _ _
  refine xr_return (S := []) (pc := 54) (hI := d_Findings_init_54) (hr := rfl) ?_
  exact q
def xK64 : XH := xmkn (xst (xst xK63 0 4 40) 0 5 0) 52 13 3 (xdef 13)
theorem cs_26 {G : XG} {d : Nat} {Q : XV → XH → Prop} {X : Nat → XH → Prop} (q : Q xN xK64) : xwp G m_AbstractCollection_init (d + 216) 0 [xR 52] [] xK64 Q X := by
  refine xr_aload_n (pc := 0) (i := 0) (hI := d_AbstractCollection_init_0) (hi := rfl) (hl := rfl) ?_
  refine xr_objInit (pc := 1) (hI := d_AbstractCollection_init_1) w_98 w_46 w_objc (by decide) (Nat.le_add_left_of_le (by decide)) (Nat.le_of_ble_eq_true rfl) ?_
  refine xr_return (S := []) (pc := 4) (hI := d_AbstractCollection_init_4) (hr := rfl) ?_
  exact q
def xK65 : XH := xst xK64 52 2 0
theorem cs_27 {G : XG} {d : Nat} {Q : XV → XH → Prop} {X : Nat → XH → Prop} (q : Q xN xK65) : xwp G m_AbstractList_init (d + 217) 0 [xR 52] [] xK64 Q X := by
  refine xr_aload_n (pc := 0) (i := 0) (hI := d_AbstractList_init_0) (hi := rfl) (hl := rfl) ?_
  refine xq_callI (pc := 1) (index := 1) (K := m_AbstractCollection_init) (As := []) (S := []) (L0 := [xR 52]) (hI := d_AbstractList_init_1) (hK := k_AbstractCollection_init) (hlk := w_95) (hnoM := rfl) (hS8 := Nat.le_of_ble_eq_true rfl) (hb0 := by decide) (hinst := w_96) (hname := rfl) (hret := rfl) (hlen := Nat.le_of_ble_eq_true rfl) (hst := rfl) (hL0 := rfl) ?_
  refine cs_26 ?_
  show xwp G m_AbstractList_init (d + 217) 4 [xR 52] [] _ _ _
  refine xr_aload_n (pc := 4) (i := 0) (hI := d_AbstractList_init_4) (hi := rfl) (hl := rfl) ?_
  refine xr_iconst (pc := 5) (hI := d_AbstractList_init_5) (hr := by decide) ?_
  refine xr_putf (pc := 6) (ci := 13) (k := 2) (N := 3) (v9 := 0) (T := xF13) (tF := xT13) (hI := d_AbstractList_init_6) (hw := w_103) rfl xi13 xt13 xn13 (Or.inl rfl) (Nat.le_of_ble_eq_true rfl) (Nat.le_of_ble_eq_true rfl) rfl xfit_i rfl (by decide +kernel) (by decide) (fun z => z) ?_
  show xwp G m_AbstractList_init (d + 217) 9 [xR 52] [] xK65 _ _
  refine xr_return (S := []) (pc := 9) (hI := d_AbstractList_init_9) (hr := rfl) ?_
  exact q
def xK66 : XH := xst xK65 52 0 (-103)
theorem cs_28 {G : XG} {d : Nat} {Q : XV → XH → Prop} {X : Nat → XH → Prop} (q : Q xN xK66) : xwp G m_ArrayList_init (d + 218) 0 [xR 52] [] xK64 Q X := by
  refine xr_aload_n (pc := 0) (i := 0) (hI := d_ArrayList_init_0) (hi := rfl) (hl := rfl) ?_
  refine xq_callI (pc := 1) (index := 1) (K := m_AbstractList_init) (As := []) (S := []) (L0 := [xR 52]) (hI := d_ArrayList_init_1) (hK := k_AbstractList_init) (hlk := w_92) (hnoM := rfl) (hS8 := Nat.le_of_ble_eq_true rfl) (hb0 := by decide) (hinst := w_93) (hname := rfl) (hret := rfl) (hlen := Nat.le_of_ble_eq_true rfl) (hst := rfl) (hL0 := rfl) ?_
  refine cs_27 ?_
  show xwp G m_ArrayList_init (d + 218) 4 [xR 52] [] _ _ _
  refine xr_aload_n (pc := 4) (i := 0) (hI := d_ArrayList_init_4) (hi := rfl) (hl := rfl) ?_
  refine xr_getstatic (pc := 5) (v := xR (-103)) (hI := d_ArrayList_init_5) w_99 (by decide +kernel) (by exact trivial) ?_
  refine xr_putf (pc := 8) (ci := 13) (k := 0) (N := 3) (v9 := 2) (T := xF13) (tF := xT13) (hI := d_ArrayList_init_8) (hw := w_101) rfl xi13 xt13 xn13 (Or.inl rfl) (Nat.le_of_ble_eq_true rfl) (Nat.le_of_ble_eq_true rfl) rfl (xfit_a _) rfl (by decide +kernel) (by decide) (fun z => z) ?_
  show xwp G m_ArrayList_init (d + 218) 11 [xR 52] [] xK66 _ _
  refine xr_return (S := []) (pc := 11) (hI := d_ArrayList_init_11) (hr := rfl) ?_
  exact q
def xK67 : XH := xst xK66 0 6 52
theorem cs_29 {G : XG} {d : Nat} {Q : XV → XH → Prop} {X : Nat → XH → Prop} (q : Q xN xK67) : xwp G m_B_init (d + 219) 0 [xR 0] [] xK1 Q X := by
  refine xr_aload_n (pc := 0) (i := 0) (hI := d_B_init_0) (hi := rfl) (hl := rfl) ?_
  refine xr_objInit (pc := 1) (hI := d_B_init_1) w_45 w_46 w_objc (by decide) (Nat.le_add_left_of_le (by decide)) (Nat.le_of_ble_eq_true rfl) ?_
  refine xr_aload_n (pc := 4) (i := 0) (hI := d_B_init_4) (hi := rfl) (hl := rfl) ?_
  refine xn_new (pc := 5) (A := 1) (ci := 8) (N := 7) (T := xF8) (tF := xT8) (hI := d_B_init_5) w_48 xj8 w_2 rfl xi8 xt8 (Nat.le_of_ble_eq_true rfl) xd78 xdf8 (by decide +kernel) (by decide +kernel) (by decide +kernel) ?_
  show xwp G m_B_init (d + 219) 8 [xR 0] [xR 1, xR 0] xK2 _ _
  refine xr_dup (pc := 8) (hI := d_B_init_8) (hv := rfl) ?_
  refine xq_callIN (pc := 9) (index := 9) (K := m_Tape_init) (As := []) (S := [xR 1, xR 0]) (L0 := [xR 1]) (hI := d_B_init_9) (hK := k_Tape_init) (hlk := w_50) (hnoM := rfl) (hS8 := Nat.le_of_ble_eq_true rfl) (hb0 := by decide) (hinst := w_51) (hname := rfl) (hret := rfl) (hlen := Nat.le_of_ble_eq_true rfl) (hst := rfl) (hL0 := rfl) ?_
  refine cs_1 ?_
  show xwp G m_B_init (d + 219) 12 [xR 0] [xR 1, xR 0] _ _ _
  refine xr_putfF (pc := 12) (ci := 0) (k := 0) (N := 7) (v9 := 2) (T := xF0) (tF := xT0) (hI := d_B_init_12) (hw := w_430) rfl xi0 xt0 xn0 (Or.inl rfl) (Nat.le_of_ble_eq_true rfl) (Nat.le_of_ble_eq_true rfl) rfl (xfit_o _) rfl rfl rfl (by decide +kernel) (by decide) (fun z => z) ?_
  refine xr_aload_n (pc := 15) (i := 0) (hI := d_B_init_15) (hi := rfl) (hl := rfl) ?_
  refine xn_new (pc := 16) (A := 5) (ci := 7) (N := 6) (T := xF7) (tF := xT7) (hI := d_B_init_16) w_81 xj7 w_3 rfl xi7 xt7 (Nat.le_of_ble_eq_true rfl) xd77 xdf7 (by decide +kernel) (by decide +kernel) (by decide +kernel) ?_
  show xwp G m_B_init (d + 219) 19 [xR 0] [xR 5, xR 0] xK7 _ _
  refine xr_dup (pc := 19) (hI := d_B_init_19) (hv := rfl) ?_
  refine xq_callIN (pc := 20) (index := 18) (K := m_Store_init) (As := []) (S := [xR 5, xR 0]) (L0 := [xR 5]) (hI := d_B_init_20) (hK := k_Store_init) (hlk := w_83) (hnoM := rfl) (hS8 := Nat.le_of_ble_eq_true rfl) (hb0 := by decide) (hinst := w_84) (hname := rfl) (hret := rfl) (hlen := Nat.le_of_ble_eq_true rfl) (hst := rfl) (hL0 := rfl) ?_
  refine cs_9 ?_
  show xwp G m_B_init (d + 219) 23 [xR 0] [xR 5, xR 0] _ _ _
  refine xr_putfF (pc := 23) (ci := 0) (k := 1) (N := 7) (v9 := 2) (T := xF0) (tF := xT0) (hI := d_B_init_23) (hw := w_431) rfl xi0 xt0 xn0 (Or.inl rfl) (Nat.le_of_ble_eq_true rfl) (Nat.le_of_ble_eq_true rfl) rfl (xfit_o _) rfl rfl rfl (by decide +kernel) (by decide) (fun z => z) ?_
  refine xr_aload_n (pc := 26) (i := 0) (hI := d_B_init_26) (hi := rfl) (hl := rfl) ?_
  refine xn_new (pc := 27) (A := 12) (ci := 10) (N := 7) (T := xF10) (tF := xT10) (hI := d_B_init_27) w_171 xj10 w_8 rfl xi10 xt10 (Nat.le_of_ble_eq_true rfl) xd710 xdf10 (by decide +kernel) (by decide +kernel) (by decide +kernel) ?_
  show xwp G m_B_init (d + 219) 30 [xR 0] [xR 12, xR 0] xK20 _ _
  refine xr_dup (pc := 30) (hI := d_B_init_30) (hv := rfl) ?_
  refine xq_callIN (pc := 31) (index := 25) (K := m_Vocabulary_init) (As := []) (S := [xR 12, xR 0]) (L0 := [xR 12]) (hI := d_B_init_31) (hK := k_Vocabulary_init) (hlk := w_173) (hnoM := rfl) (hS8 := Nat.le_of_ble_eq_true rfl) (hb0 := by decide) (hinst := w_174) (hname := rfl) (hret := rfl) (hlen := Nat.le_of_ble_eq_true rfl) (hst := rfl) (hL0 := rfl) ?_
  refine cs_10 ?_
  show xwp G m_B_init (d + 219) 34 [xR 0] [xR 12, xR 0] _ _ _
  refine xr_putfF (pc := 34) (ci := 0) (k := 2) (N := 7) (v9 := 2) (T := xF0) (tF := xT0) (hI := d_B_init_34) (hw := w_432) rfl xi0 xt0 xn0 (Or.inl rfl) (Nat.le_of_ble_eq_true rfl) (Nat.le_of_ble_eq_true rfl) rfl (xfit_o _) rfl rfl rfl (by decide +kernel) (by decide) (fun z => z) ?_
  refine xr_aload_n (pc := 37) (i := 0) (hI := d_B_init_37) (hi := rfl) (hl := rfl) ?_
  refine xn_new (pc := 38) (A := 32) (ci := 6) (N := 15) (T := xF6) (tF := xT6) (hI := d_B_init_38) w_202 xj6 w_9 rfl xi6 xt6 (Nat.le_of_ble_eq_true rfl) xd76 xdf6 (by decide +kernel) (by decide +kernel) (by decide +kernel) ?_
  show xwp G m_B_init (d + 219) 41 [xR 0] [xR 32, xR 0] xK28 _ _
  refine xr_dup (pc := 41) (hI := d_B_init_41) (hv := rfl) ?_
  refine xq_callIN (pc := 42) (index := 32) (K := m_QuestionReader_init) (As := []) (S := [xR 32, xR 0]) (L0 := [xR 32]) (hI := d_B_init_42) (hK := k_QuestionReader_init) (hlk := w_204) (hnoM := rfl) (hS8 := Nat.le_of_ble_eq_true rfl) (hb0 := by decide) (hinst := w_205) (hname := rfl) (hret := rfl) (hlen := Nat.le_of_ble_eq_true rfl) (hst := rfl) (hL0 := rfl) ?_
  refine cs_22 ?_
  show xwp G m_B_init (d + 219) 45 [xR 0] [xR 32, xR 0] _ _ _
  refine xr_putfF (pc := 45) (ci := 0) (k := 3) (N := 7) (v9 := 2) (T := xF0) (tF := xT0) (hI := d_B_init_45) (hw := w_433) rfl xi0 xt0 xn0 (Or.inl rfl) (Nat.le_of_ble_eq_true rfl) (Nat.le_of_ble_eq_true rfl) rfl (xfit_o _) rfl rfl rfl (by decide +kernel) (by decide) (fun z => z) ?_
  refine xr_aload_n (pc := 48) (i := 0) (hI := d_B_init_48) (hi := rfl) (hl := rfl) ?_
  refine xn_new (pc := 49) (A := 40) (ci := 1) (N := 6) (T := xF1) (tF := xT1) (hI := d_B_init_49) w_354 xj1 w_12 rfl xi1 xt1 (Nat.le_of_ble_eq_true rfl) xd71 xdf1 (by decide +kernel) (by decide +kernel) (by decide +kernel) ?_
  show xwp G m_B_init (d + 219) 52 [xR 0] [xR 40, xR 0] xK49 _ _
  refine xr_dup (pc := 52) (hI := d_B_init_52) (hv := rfl) ?_
  refine xq_callIN (pc := 53) (index := 39) (K := m_Findings_init) (As := []) (S := [xR 40, xR 0]) (L0 := [xR 40]) (hI := d_B_init_53) (hK := k_Findings_init) (hlk := w_356) (hnoM := rfl) (hS8 := Nat.le_of_ble_eq_true rfl) (hb0 := by decide) (hinst := w_357) (hname := rfl) (hret := rfl) (hlen := Nat.le_of_ble_eq_true rfl) (hst := rfl) (hL0 := rfl) ?_
  refine cs_25 ?_
  show xwp G m_B_init (d + 219) 56 [xR 0] [xR 40, xR 0] _ _ _
  refine xr_putfF (pc := 56) (ci := 0) (k := 4) (N := 7) (v9 := 2) (T := xF0) (tF := xT0) (hI := d_B_init_56) (hw := w_434) rfl xi0 xt0 xn0 (Or.inl rfl) (Nat.le_of_ble_eq_true rfl) (Nat.le_of_ble_eq_true rfl) rfl (xfit_o _) rfl rfl rfl (by decide +kernel) (by decide) (fun z => z) ?_
  refine xr_aload_n (pc := 59) (i := 0) (hI := d_B_init_59) (hi := rfl) (hl := rfl) ?_
  refine xr_lconst (pc := 60) (z := 0) (hI := d_B_init_60) (hr := by decide) (hv := by decide) ?_
  refine xr_putf (pc := 61) (ci := 0) (k := 5) (N := 7) (v9 := 1) (T := xF0) (tF := xT0) (hI := d_B_init_61) (hw := w_435) rfl xi0 xt0 xn0 (Or.inl rfl) (Nat.le_of_ble_eq_true rfl) (Nat.le_of_ble_eq_true rfl) rfl xfit_l rfl (by decide +kernel) (by decide) (fun z => z) ?_
  refine xr_aload_n (pc := 64) (i := 0) (hI := d_B_init_64) (hi := rfl) (hl := rfl) ?_
  refine xn_new (pc := 65) (A := 52) (ci := 13) (N := 3) (T := xF13) (tF := xT13) (hI := d_B_init_65) w_428 xj13 w_6 rfl xi13 xt13 (Nat.le_of_ble_eq_true rfl) xd713 xdf13 (by decide +kernel) (by decide +kernel) (by decide +kernel) ?_
  show xwp G m_B_init (d + 219) 68 [xR 0] [xR 52, xR 0] xK64 _ _
  refine xr_dup (pc := 68) (hI := d_B_init_68) (hv := rfl) ?_
  refine xq_callI (pc := 69) (index := 50) (K := m_ArrayList_init) (As := []) (S := [xR 52, xR 0]) (L0 := [xR 52]) (hI := d_B_init_69) (hK := k_ArrayList_init) (hlk := w_429) (hnoM := rfl) (hS8 := Nat.le_of_ble_eq_true rfl) (hb0 := by decide) (hinst := w_90) (hname := rfl) (hret := rfl) (hlen := Nat.le_of_ble_eq_true rfl) (hst := rfl) (hL0 := rfl) ?_
  refine cs_28 ?_
  show xwp G m_B_init (d + 219) 72 [xR 0] [xR 52, xR 0] _ _ _
  refine xr_putf (pc := 72) (ci := 0) (k := 6) (N := 7) (v9 := 2) (T := xF0) (tF := xT0) (hI := d_B_init_72) (hw := w_436) rfl xi0 xt0 xn0 (Or.inl rfl) (Nat.le_of_ble_eq_true rfl) (Nat.le_of_ble_eq_true rfl) rfl (xfit_o _) rfl (by decide +kernel) (by decide) (fun z => z) ?_
  show xwp G m_B_init (d + 219) 75 [xR 0] [] xK67 _ _
  refine xr_return (S := []) (pc := 75) (hI := d_B_init_75) (hr := rfl) ?_
  exact q
def xK68 : XH := xmkn xK67 53 11 38 (xdef 11)
def xK69 : XH := xmkn xK68 54 100 400 (fun _ => 0)
def xK70 : XH := xmkn (xst xK69 53 1 54) 55 100 60 (fun _ => 0)
def xK71 : XH := xmkn (xst xK70 53 3 55) 56 100 60 (fun _ => 0)
def xK72 : XH := xmkn (xst xK71 53 7 56) 57 100 60 (fun _ => 0)
def xK73 : XH := xmkn (xst xK72 53 8 57) 58 100 60 (fun _ => 0)
def xK74 : XH := xmkn (xst xK73 53 9 58) 59 100 60 (fun _ => 0)
def xK75 : XH := xmkn (xst xK74 53 10 59) 60 102 60 (fun _ => 0)
def xK76 : XH := xmkn (xst xK75 53 11 60) 61 100 120 (fun _ => 0)
def xK77 : XH := xmkn (xst xK76 53 12 61) 62 101 12000 (fun _ => 0)
def xK78 : XH := xmkn (xst xK77 53 13 62) 63 100 12 (fun _ => 0)
def xK79 : XH := xmkn (xst xK78 53 15 63) 64 101 12000 (fun _ => 0)
def xK80 : XH := xmkn (xst xK79 53 16 64) 65 100 169 (fun _ => 0)
def xK81 : XH := xmkn (xst xK80 53 17 65) 66 12 13 (xdef 12)
def xK82 : XH := xmkn xK81 67 100 41 (fun _ => 0)
def xK83 : XH := xmkn (xst xK82 66 1 67) 68 100 41 (fun _ => 0)
def xK84 : XH := xmkn (xst xK83 66 2 68) 69 100 41 (fun _ => 0)
def xK85 : XH := xmkn (xst xK84 66 3 69) 70 100 41 (fun _ => 0)
def xK86 : XH := xmkn (xst xK85 66 4 70) 71 100 41 (fun _ => 0)
def xK87 : XH := xmkn (xst xK86 66 5 71) 72 100 41 (fun _ => 0)
def xK88 : XH := xmkn (xst xK87 66 6 72) 73 100 41 (fun _ => 0)
def xK89 : XH := xmkn (xst xK88 66 7 73) 74 100 41 (fun _ => 0)
def xK90 : XH := xmkn (xst xK89 66 8 74) 75 100 41 (fun _ => 0)
def xK91 : XH := xmkn (xst xK90 66 9 75) 76 101 42 (fun _ => 0)
def xK92 : XH := xmkn (xst xK91 66 11 76) 77 100 42 (fun _ => 0)
def xK93 : XH := xst xK92 66 12 77
theorem cs_30 {G : XG} {d : Nat} {Q : XV → XH → Prop} {X : Nat → XH → Prop} (q : Q xN xK93) : xwp G m_MQ_init (d + 218) 0 [xR 66] [] xK81 Q X := by
  refine xr_aload_n (pc := 0) (i := 0) (hI := d_MQ_init_0) (hi := rfl) (hl := rfl) ?_
  refine xr_objInit (pc := 1) (hI := d_MQ_init_1) w_1535 w_46 w_objc (by decide) (Nat.le_add_left_of_le (by decide)) (Nat.le_of_ble_eq_true rfl) ?_
  refine xr_aload_n (pc := 4) (i := 0) (hI := d_MQ_init_4) (hi := rfl) (hl := rfl) ?_
  refine xr_bipush (pc := 5) (hI := d_MQ_init_5) (hr := by decide) (hv := by decide) ?_
  refine xn_newarray (pc := 7) (A := 67) (t := 100) (hI := d_MQ_init_7) rfl w_79 rfl (Nat.le_of_ble_eq_true rfl) (Nat.le_of_ble_eq_true rfl) (by decide) (fun _ => rfl) (xok_z rfl) (by decide) (by decide) (by decide +kernel) (by decide +kernel) (by decide +kernel) ?_
  show xwp G m_MQ_init (d + 218) 9 [xR 66] [xR 67, xR 66] xK82 _ _
  refine xr_putfF (pc := 9) (ci := 12) (k := 1) (N := 13) (v9 := 2) (T := xF12) (tF := xT12) (hI := d_MQ_init_9) (hw := w_1537) rfl xi12 xt12 xn12 (Or.inl rfl) (Nat.le_of_ble_eq_true rfl) (Nat.le_of_ble_eq_true rfl) rfl (xfit_a _) rfl rfl rfl (by decide +kernel) (by decide) (fun z => z) ?_
  refine xr_aload_n (pc := 12) (i := 0) (hI := d_MQ_init_12) (hi := rfl) (hl := rfl) ?_
  refine xr_bipush (pc := 13) (hI := d_MQ_init_13) (hr := by decide) (hv := by decide) ?_
  refine xn_newarray (pc := 15) (A := 68) (t := 100) (hI := d_MQ_init_15) rfl w_79 rfl (Nat.le_of_ble_eq_true rfl) (Nat.le_of_ble_eq_true rfl) (by decide) (fun _ => rfl) (xok_z rfl) (by decide) (by decide) (by decide +kernel) (by decide +kernel) (by decide +kernel) ?_
  show xwp G m_MQ_init (d + 218) 17 [xR 66] [xR 68, xR 66] xK83 _ _
  refine xr_putfF (pc := 17) (ci := 12) (k := 2) (N := 13) (v9 := 2) (T := xF12) (tF := xT12) (hI := d_MQ_init_17) (hw := w_1539) rfl xi12 xt12 xn12 (Or.inl rfl) (Nat.le_of_ble_eq_true rfl) (Nat.le_of_ble_eq_true rfl) rfl (xfit_a _) rfl rfl rfl (by decide +kernel) (by decide) (fun z => z) ?_
  refine xr_aload_n (pc := 20) (i := 0) (hI := d_MQ_init_20) (hi := rfl) (hl := rfl) ?_
  refine xr_bipush (pc := 21) (hI := d_MQ_init_21) (hr := by decide) (hv := by decide) ?_
  refine xn_newarray (pc := 23) (A := 69) (t := 100) (hI := d_MQ_init_23) rfl w_79 rfl (Nat.le_of_ble_eq_true rfl) (Nat.le_of_ble_eq_true rfl) (by decide) (fun _ => rfl) (xok_z rfl) (by decide) (by decide) (by decide +kernel) (by decide +kernel) (by decide +kernel) ?_
  show xwp G m_MQ_init (d + 218) 25 [xR 66] [xR 69, xR 66] xK84 _ _
  refine xr_putfF (pc := 25) (ci := 12) (k := 3) (N := 13) (v9 := 2) (T := xF12) (tF := xT12) (hI := d_MQ_init_25) (hw := w_1541) rfl xi12 xt12 xn12 (Or.inl rfl) (Nat.le_of_ble_eq_true rfl) (Nat.le_of_ble_eq_true rfl) rfl (xfit_a _) rfl rfl rfl (by decide +kernel) (by decide) (fun z => z) ?_
  refine xr_aload_n (pc := 28) (i := 0) (hI := d_MQ_init_28) (hi := rfl) (hl := rfl) ?_
  refine xr_bipush (pc := 29) (hI := d_MQ_init_29) (hr := by decide) (hv := by decide) ?_
  refine xn_newarray (pc := 31) (A := 70) (t := 100) (hI := d_MQ_init_31) rfl w_79 rfl (Nat.le_of_ble_eq_true rfl) (Nat.le_of_ble_eq_true rfl) (by decide) (fun _ => rfl) (xok_z rfl) (by decide) (by decide) (by decide +kernel) (by decide +kernel) (by decide +kernel) ?_
  show xwp G m_MQ_init (d + 218) 33 [xR 66] [xR 70, xR 66] xK85 _ _
  refine xr_putfF (pc := 33) (ci := 12) (k := 4) (N := 13) (v9 := 2) (T := xF12) (tF := xT12) (hI := d_MQ_init_33) (hw := w_1543) rfl xi12 xt12 xn12 (Or.inl rfl) (Nat.le_of_ble_eq_true rfl) (Nat.le_of_ble_eq_true rfl) rfl (xfit_a _) rfl rfl rfl (by decide +kernel) (by decide) (fun z => z) ?_
  refine xr_aload_n (pc := 36) (i := 0) (hI := d_MQ_init_36) (hi := rfl) (hl := rfl) ?_
  refine xr_bipush (pc := 37) (hI := d_MQ_init_37) (hr := by decide) (hv := by decide) ?_
  refine xn_newarray (pc := 39) (A := 71) (t := 100) (hI := d_MQ_init_39) rfl w_79 rfl (Nat.le_of_ble_eq_true rfl) (Nat.le_of_ble_eq_true rfl) (by decide) (fun _ => rfl) (xok_z rfl) (by decide) (by decide) (by decide +kernel) (by decide +kernel) (by decide +kernel) ?_
  show xwp G m_MQ_init (d + 218) 41 [xR 66] [xR 71, xR 66] xK86 _ _
  refine xr_putfF (pc := 41) (ci := 12) (k := 5) (N := 13) (v9 := 2) (T := xF12) (tF := xT12) (hI := d_MQ_init_41) (hw := w_1545) rfl xi12 xt12 xn12 (Or.inl rfl) (Nat.le_of_ble_eq_true rfl) (Nat.le_of_ble_eq_true rfl) rfl (xfit_a _) rfl rfl rfl (by decide +kernel) (by decide) (fun z => z) ?_
  refine xr_aload_n (pc := 44) (i := 0) (hI := d_MQ_init_44) (hi := rfl) (hl := rfl) ?_
  refine xr_bipush (pc := 45) (hI := d_MQ_init_45) (hr := by decide) (hv := by decide) ?_
  refine xn_newarray (pc := 47) (A := 72) (t := 100) (hI := d_MQ_init_47) rfl w_79 rfl (Nat.le_of_ble_eq_true rfl) (Nat.le_of_ble_eq_true rfl) (by decide) (fun _ => rfl) (xok_z rfl) (by decide) (by decide) (by decide +kernel) (by decide +kernel) (by decide +kernel) ?_
  show xwp G m_MQ_init (d + 218) 49 [xR 66] [xR 72, xR 66] xK87 _ _
  refine xr_putfF (pc := 49) (ci := 12) (k := 6) (N := 13) (v9 := 2) (T := xF12) (tF := xT12) (hI := d_MQ_init_49) (hw := w_1547) rfl xi12 xt12 xn12 (Or.inl rfl) (Nat.le_of_ble_eq_true rfl) (Nat.le_of_ble_eq_true rfl) rfl (xfit_a _) rfl rfl rfl (by decide +kernel) (by decide) (fun z => z) ?_
  refine xr_aload_n (pc := 52) (i := 0) (hI := d_MQ_init_52) (hi := rfl) (hl := rfl) ?_
  refine xr_bipush (pc := 53) (hI := d_MQ_init_53) (hr := by decide) (hv := by decide) ?_
  refine xn_newarray (pc := 55) (A := 73) (t := 100) (hI := d_MQ_init_55) rfl w_79 rfl (Nat.le_of_ble_eq_true rfl) (Nat.le_of_ble_eq_true rfl) (by decide) (fun _ => rfl) (xok_z rfl) (by decide) (by decide) (by decide +kernel) (by decide +kernel) (by decide +kernel) ?_
  show xwp G m_MQ_init (d + 218) 57 [xR 66] [xR 73, xR 66] xK88 _ _
  refine xr_putfF (pc := 57) (ci := 12) (k := 7) (N := 13) (v9 := 2) (T := xF12) (tF := xT12) (hI := d_MQ_init_57) (hw := w_1549) rfl xi12 xt12 xn12 (Or.inl rfl) (Nat.le_of_ble_eq_true rfl) (Nat.le_of_ble_eq_true rfl) rfl (xfit_a _) rfl rfl rfl (by decide +kernel) (by decide) (fun z => z) ?_
  refine xr_aload_n (pc := 60) (i := 0) (hI := d_MQ_init_60) (hi := rfl) (hl := rfl) ?_
  refine xr_bipush (pc := 61) (hI := d_MQ_init_61) (hr := by decide) (hv := by decide) ?_
  refine xn_newarray (pc := 63) (A := 74) (t := 100) (hI := d_MQ_init_63) rfl w_79 rfl (Nat.le_of_ble_eq_true rfl) (Nat.le_of_ble_eq_true rfl) (by decide) (fun _ => rfl) (xok_z rfl) (by decide) (by decide) (by decide +kernel) (by decide +kernel) (by decide +kernel) ?_
  show xwp G m_MQ_init (d + 218) 65 [xR 66] [xR 74, xR 66] xK89 _ _
  refine xr_putfF (pc := 65) (ci := 12) (k := 8) (N := 13) (v9 := 2) (T := xF12) (tF := xT12) (hI := d_MQ_init_65) (hw := w_1551) rfl xi12 xt12 xn12 (Or.inl rfl) (Nat.le_of_ble_eq_true rfl) (Nat.le_of_ble_eq_true rfl) rfl (xfit_a _) rfl rfl rfl (by decide +kernel) (by decide) (fun z => z) ?_
  refine xr_aload_n (pc := 68) (i := 0) (hI := d_MQ_init_68) (hi := rfl) (hl := rfl) ?_
  refine xr_bipush (pc := 69) (hI := d_MQ_init_69) (hr := by decide) (hv := by decide) ?_
  refine xn_newarray (pc := 71) (A := 75) (t := 100) (hI := d_MQ_init_71) rfl w_79 rfl (Nat.le_of_ble_eq_true rfl) (Nat.le_of_ble_eq_true rfl) (by decide) (fun _ => rfl) (xok_z rfl) (by decide) (by decide) (by decide +kernel) (by decide +kernel) (by decide +kernel) ?_
  show xwp G m_MQ_init (d + 218) 73 [xR 66] [xR 75, xR 66] xK90 _ _
  refine xr_putfF (pc := 73) (ci := 12) (k := 9) (N := 13) (v9 := 2) (T := xF12) (tF := xT12) (hI := d_MQ_init_73) (hw := w_1553) rfl xi12 xt12 xn12 (Or.inl rfl) (Nat.le_of_ble_eq_true rfl) (Nat.le_of_ble_eq_true rfl) rfl (xfit_a _) rfl rfl rfl (by decide +kernel) (by decide) (fun z => z) ?_
  refine xr_aload_n (pc := 76) (i := 0) (hI := d_MQ_init_76) (hi := rfl) (hl := rfl) ?_
  refine xr_bipush (pc := 77) (hI := d_MQ_init_77) (hr := by decide) (hv := by decide) ?_
  refine xn_newarray (pc := 79) (A := 76) (t := 101) (hI := d_MQ_init_79) rfl w_80 rfl (Nat.le_of_ble_eq_true rfl) (Nat.le_of_ble_eq_true rfl) (by decide) (fun _ => rfl) (xok_z rfl) (by decide) (by decide) (by decide +kernel) (by decide +kernel) (by decide +kernel) ?_
  show xwp G m_MQ_init (d + 218) 81 [xR 66] [xR 76, xR 66] xK91 _ _
  refine xr_putfF (pc := 81) (ci := 12) (k := 11) (N := 13) (v9 := 2) (T := xF12) (tF := xT12) (hI := d_MQ_init_81) (hw := w_1556) rfl xi12 xt12 xn12 (Or.inl rfl) (Nat.le_of_ble_eq_true rfl) (Nat.le_of_ble_eq_true rfl) rfl (xfit_a _) rfl rfl rfl (by decide +kernel) (by decide) (fun z => z) ?_
  refine xr_aload_n (pc := 84) (i := 0) (hI := d_MQ_init_84) (hi := rfl) (hl := rfl) ?_
  refine xr_bipush (pc := 85) (hI := d_MQ_init_85) (hr := by decide) (hv := by decide) ?_
  refine xn_newarray (pc := 87) (A := 77) (t := 100) (hI := d_MQ_init_87) rfl w_79 rfl (Nat.le_of_ble_eq_true rfl) (Nat.le_of_ble_eq_true rfl) (by decide) (fun _ => rfl) (xok_z rfl) (by decide) (by decide) (by decide +kernel) (by decide +kernel) (by decide +kernel) ?_
  show xwp G m_MQ_init (d + 218) 89 [xR 66] [xR 77, xR 66] xK92 _ _
  refine xr_putfF (pc := 89) (ci := 12) (k := 12) (N := 13) (v9 := 2) (T := xF12) (tF := xT12) (hI := d_MQ_init_89) (hw := w_1558) rfl xi12 xt12 xn12 (Or.inl rfl) (Nat.le_of_ble_eq_true rfl) (Nat.le_of_ble_eq_true rfl) rfl (xfit_a _) rfl rfl rfl (by decide +kernel) (by decide) (fun z => z) ?_
  show xwp G m_MQ_init (d + 218) 92 [xR 66] [] xK93 _ _
  refine xr_return (S := []) (pc := 92) (hI := d_MQ_init_92) (hr := rfl) ?_
  exact q
def xK94 : XH := xst xK93 53 19 66
def xK95 : XH := xmkn (xst xK94 53 20 66) 78 100 41 (fun _ => 0)
def xK96 : XH := xmkn (xst xK95 53 21 78) 79 100 41 (fun _ => 0)
def xK97 : XH := xmkn (xst xK96 53 22 79) 80 100 41 (fun _ => 0)
def xK98 : XH := xmkn (xst xK97 53 23 80) 81 100 4920 (fun _ => 0)
def xK99 : XH := xmkn (xst xK98 53 27 81) 82 100 4920 (fun _ => 0)
def xK100 : XH := xmkn (xst xK99 53 28 82) 83 100 82 (fun _ => 0)
def xK101 : XH := xmkn (xst xK100 53 29 83) 84 100 2 (fun _ => 0)
def xK102 : XH := xmkn (xst xK101 53 30 84) 85 102 41 (fun _ => 0)
def xK103 : XH := xmkn (xst xK102 53 31 85) 86 100 41 (fun _ => 0)
def xK104 : XH := xmkn (xst xK103 53 32 86) 87 100 40 (fun _ => 0)
def xK105 : XH := xmkn (xst xK104 53 33 87) 88 100 40 (fun _ => 0)
def xK106 : XH := xmkn (xst xK105 53 34 88) 89 100 60 (fun _ => 0)
def xK107 : XH := xmkn (xst xK106 53 36 89) 90 100 60 (fun _ => 0)
def xK108 : XH := xst xK107 53 37 90
def xK109 : XH := xRow xK108 60
theorem cs_31 {G : XG} {d : Nat} {Q : XV → XH → Prop} {X : Nat → XH → Prop} (q : Q xN xK109) : xwp G m_M_init (d + 219) 0 [xR 53, xZ] [] xK68 Q X := by
  refine xr_aload_n (pc := 0) (i := 0) (hI := d_M_init_0) (hi := rfl) (hl := rfl) ?_
  refine xr_objInit (pc := 1) (hI := d_M_init_1) w_1529 w_46 w_objc (by decide) (Nat.le_add_left_of_le (by decide)) (Nat.le_of_ble_eq_true rfl) ?_
  refine xr_aload_n (pc := 4) (i := 0) (hI := d_M_init_4) (hi := rfl) (hl := rfl) ?_
  refine xr_sipush (pc := 5) (hI := d_M_init_5) (hr := by decide) (hv := by decide) ?_
  refine xn_newarray (pc := 8) (A := 54) (t := 100) (hI := d_M_init_8) rfl w_79 rfl (Nat.le_of_ble_eq_true rfl) (Nat.le_of_ble_eq_true rfl) (by decide) (fun _ => rfl) (xok_z rfl) (by decide) (by decide) (by decide +kernel) (by decide +kernel) (by decide +kernel) ?_
  show xwp G m_M_init (d + 219) 10 [xR 53, xZ] [xR 54, xR 53] xK69 _ _
  refine xr_putfF (pc := 10) (ci := 11) (k := 1) (N := 38) (v9 := 2) (T := xF11) (tF := xT11) (hI := d_M_init_10) (hw := w_1588) rfl xi11 xt11 xn11 (Or.inl rfl) (Nat.le_of_ble_eq_true rfl) (Nat.le_of_ble_eq_true rfl) rfl (xfit_a _) rfl rfl rfl (by decide +kernel) (by decide) (fun z => z) ?_
  refine xr_aload_n (pc := 13) (i := 0) (hI := d_M_init_13) (hi := rfl) (hl := rfl) ?_
  refine xr_bipush (pc := 14) (hI := d_M_init_14) (hr := by decide) (hv := by decide) ?_
  refine xn_newarray (pc := 16) (A := 55) (t := 100) (hI := d_M_init_16) rfl w_79 rfl (Nat.le_of_ble_eq_true rfl) (Nat.le_of_ble_eq_true rfl) (by decide) (fun _ => rfl) (xok_z rfl) (by decide) (by decide) (by decide +kernel) (by decide +kernel) (by decide +kernel) ?_
  show xwp G m_M_init (d + 219) 18 [xR 53, xZ] [xR 55, xR 53] xK70 _ _
  refine xr_putfF (pc := 18) (ci := 11) (k := 3) (N := 38) (v9 := 2) (T := xF11) (tF := xT11) (hI := d_M_init_18) (hw := w_1590) rfl xi11 xt11 xn11 (Or.inl rfl) (Nat.le_of_ble_eq_true rfl) (Nat.le_of_ble_eq_true rfl) rfl (xfit_a _) rfl rfl rfl (by decide +kernel) (by decide) (fun z => z) ?_
  refine xr_aload_n (pc := 21) (i := 0) (hI := d_M_init_21) (hi := rfl) (hl := rfl) ?_
  refine xr_bipush (pc := 22) (hI := d_M_init_22) (hr := by decide) (hv := by decide) ?_
  refine xn_newarray (pc := 24) (A := 56) (t := 100) (hI := d_M_init_24) rfl w_79 rfl (Nat.le_of_ble_eq_true rfl) (Nat.le_of_ble_eq_true rfl) (by decide) (fun _ => rfl) (xok_z rfl) (by decide) (by decide) (by decide +kernel) (by decide +kernel) (by decide +kernel) ?_
  show xwp G m_M_init (d + 219) 26 [xR 53, xZ] [xR 56, xR 53] xK71 _ _
  refine xr_putfF (pc := 26) (ci := 11) (k := 7) (N := 38) (v9 := 2) (T := xF11) (tF := xT11) (hI := d_M_init_26) (hw := w_1594) rfl xi11 xt11 xn11 (Or.inl rfl) (Nat.le_of_ble_eq_true rfl) (Nat.le_of_ble_eq_true rfl) rfl (xfit_a _) rfl rfl rfl (by decide +kernel) (by decide) (fun z => z) ?_
  refine xr_aload_n (pc := 29) (i := 0) (hI := d_M_init_29) (hi := rfl) (hl := rfl) ?_
  refine xr_bipush (pc := 30) (hI := d_M_init_30) (hr := by decide) (hv := by decide) ?_
  refine xn_newarray (pc := 32) (A := 57) (t := 100) (hI := d_M_init_32) rfl w_79 rfl (Nat.le_of_ble_eq_true rfl) (Nat.le_of_ble_eq_true rfl) (by decide) (fun _ => rfl) (xok_z rfl) (by decide) (by decide) (by decide +kernel) (by decide +kernel) (by decide +kernel) ?_
  show xwp G m_M_init (d + 219) 34 [xR 53, xZ] [xR 57, xR 53] xK72 _ _
  refine xr_putfF (pc := 34) (ci := 11) (k := 8) (N := 38) (v9 := 2) (T := xF11) (tF := xT11) (hI := d_M_init_34) (hw := w_1595) rfl xi11 xt11 xn11 (Or.inl rfl) (Nat.le_of_ble_eq_true rfl) (Nat.le_of_ble_eq_true rfl) rfl (xfit_a _) rfl rfl rfl (by decide +kernel) (by decide) (fun z => z) ?_
  refine xr_aload_n (pc := 37) (i := 0) (hI := d_M_init_37) (hi := rfl) (hl := rfl) ?_
  refine xr_bipush (pc := 38) (hI := d_M_init_38) (hr := by decide) (hv := by decide) ?_
  refine xn_newarray (pc := 40) (A := 58) (t := 100) (hI := d_M_init_40) rfl w_79 rfl (Nat.le_of_ble_eq_true rfl) (Nat.le_of_ble_eq_true rfl) (by decide) (fun _ => rfl) (xok_z rfl) (by decide) (by decide) (by decide +kernel) (by decide +kernel) (by decide +kernel) ?_
  show xwp G m_M_init (d + 219) 42 [xR 53, xZ] [xR 58, xR 53] xK73 _ _
  refine xr_putfF (pc := 42) (ci := 11) (k := 9) (N := 38) (v9 := 2) (T := xF11) (tF := xT11) (hI := d_M_init_42) (hw := w_1596) rfl xi11 xt11 xn11 (Or.inl rfl) (Nat.le_of_ble_eq_true rfl) (Nat.le_of_ble_eq_true rfl) rfl (xfit_a _) rfl rfl rfl (by decide +kernel) (by decide) (fun z => z) ?_
  refine xr_aload_n (pc := 45) (i := 0) (hI := d_M_init_45) (hi := rfl) (hl := rfl) ?_
  refine xr_bipush (pc := 46) (hI := d_M_init_46) (hr := by decide) (hv := by decide) ?_
  refine xn_newarray (pc := 48) (A := 59) (t := 100) (hI := d_M_init_48) rfl w_79 rfl (Nat.le_of_ble_eq_true rfl) (Nat.le_of_ble_eq_true rfl) (by decide) (fun _ => rfl) (xok_z rfl) (by decide) (by decide) (by decide +kernel) (by decide +kernel) (by decide +kernel) ?_
  show xwp G m_M_init (d + 219) 50 [xR 53, xZ] [xR 59, xR 53] xK74 _ _
  refine xr_putfF (pc := 50) (ci := 11) (k := 10) (N := 38) (v9 := 2) (T := xF11) (tF := xT11) (hI := d_M_init_50) (hw := w_1597) rfl xi11 xt11 xn11 (Or.inl rfl) (Nat.le_of_ble_eq_true rfl) (Nat.le_of_ble_eq_true rfl) rfl (xfit_a _) rfl rfl rfl (by decide +kernel) (by decide) (fun z => z) ?_
  refine xr_aload_n (pc := 53) (i := 0) (hI := d_M_init_53) (hi := rfl) (hl := rfl) ?_
  refine xr_bipush (pc := 54) (hI := d_M_init_54) (hr := by decide) (hv := by decide) ?_
  refine xn_newarray (pc := 56) (A := 60) (t := 102) (hI := d_M_init_56) rfl w_427 rfl (Nat.le_of_ble_eq_true rfl) (Nat.le_of_ble_eq_true rfl) (by decide) (fun _ => rfl) (xok_z rfl) (by decide) (by decide) (by decide +kernel) (by decide +kernel) (by decide +kernel) ?_
  show xwp G m_M_init (d + 219) 58 [xR 53, xZ] [xR 60, xR 53] xK75 _ _
  refine xr_putfF (pc := 58) (ci := 11) (k := 11) (N := 38) (v9 := 2) (T := xF11) (tF := xT11) (hI := d_M_init_58) (hw := w_1598) rfl xi11 xt11 xn11 (Or.inl rfl) (Nat.le_of_ble_eq_true rfl) (Nat.le_of_ble_eq_true rfl) rfl (xfit_a _) rfl rfl rfl (by decide +kernel) (by decide) (fun z => z) ?_
  refine xr_aload_n (pc := 61) (i := 0) (hI := d_M_init_61) (hi := rfl) (hl := rfl) ?_
  refine xr_bipush (pc := 62) (hI := d_M_init_62) (hr := by decide) (hv := by decide) ?_
  refine xn_newarray (pc := 64) (A := 61) (t := 100) (hI := d_M_init_64) rfl w_79 rfl (Nat.le_of_ble_eq_true rfl) (Nat.le_of_ble_eq_true rfl) (by decide) (fun _ => rfl) (xok_z rfl) (by decide) (by decide) (by decide +kernel) (by decide +kernel) (by decide +kernel) ?_
  show xwp G m_M_init (d + 219) 66 [xR 53, xZ] [xR 61, xR 53] xK76 _ _
  refine xr_putfF (pc := 66) (ci := 11) (k := 12) (N := 38) (v9 := 2) (T := xF11) (tF := xT11) (hI := d_M_init_66) (hw := w_1599) rfl xi11 xt11 xn11 (Or.inl rfl) (Nat.le_of_ble_eq_true rfl) (Nat.le_of_ble_eq_true rfl) rfl (xfit_a _) rfl rfl rfl (by decide +kernel) (by decide) (fun z => z) ?_
  refine xr_aload_n (pc := 69) (i := 0) (hI := d_M_init_69) (hi := rfl) (hl := rfl) ?_
  refine xr_sipush (pc := 70) (hI := d_M_init_70) (hr := by decide) (hv := by decide) ?_
  refine xn_newarray (pc := 73) (A := 62) (t := 101) (hI := d_M_init_73) rfl w_80 rfl (Nat.le_of_ble_eq_true rfl) (Nat.le_of_ble_eq_true rfl) (by decide) (fun _ => rfl) (xok_z rfl) (by decide) (by decide) (by decide +kernel) (by decide +kernel) (by decide +kernel) ?_
  show xwp G m_M_init (d + 219) 75 [xR 53, xZ] [xR 62, xR 53] xK77 _ _
  refine xr_putfF (pc := 75) (ci := 11) (k := 13) (N := 38) (v9 := 2) (T := xF11) (tF := xT11) (hI := d_M_init_75) (hw := w_1600) rfl xi11 xt11 xn11 (Or.inl rfl) (Nat.le_of_ble_eq_true rfl) (Nat.le_of_ble_eq_true rfl) rfl (xfit_a _) rfl rfl rfl (by decide +kernel) (by decide) (fun z => z) ?_
  refine xr_aload_n (pc := 78) (i := 0) (hI := d_M_init_78) (hi := rfl) (hl := rfl) ?_
  refine xr_bipush (pc := 79) (hI := d_M_init_79) (hr := by decide) (hv := by decide) ?_
  refine xn_newarray (pc := 81) (A := 63) (t := 100) (hI := d_M_init_81) rfl w_79 rfl (Nat.le_of_ble_eq_true rfl) (Nat.le_of_ble_eq_true rfl) (by decide) (fun _ => rfl) (xok_z rfl) (by decide) (by decide) (by decide +kernel) (by decide +kernel) (by decide +kernel) ?_
  show xwp G m_M_init (d + 219) 83 [xR 53, xZ] [xR 63, xR 53] xK78 _ _
  refine xr_putfF (pc := 83) (ci := 11) (k := 15) (N := 38) (v9 := 2) (T := xF11) (tF := xT11) (hI := d_M_init_83) (hw := w_1602) rfl xi11 xt11 xn11 (Or.inl rfl) (Nat.le_of_ble_eq_true rfl) (Nat.le_of_ble_eq_true rfl) rfl (xfit_a _) rfl rfl rfl (by decide +kernel) (by decide) (fun z => z) ?_
  refine xr_aload_n (pc := 86) (i := 0) (hI := d_M_init_86) (hi := rfl) (hl := rfl) ?_
  refine xr_sipush (pc := 87) (hI := d_M_init_87) (hr := by decide) (hv := by decide) ?_
  refine xn_newarray (pc := 90) (A := 64) (t := 101) (hI := d_M_init_90) rfl w_80 rfl (Nat.le_of_ble_eq_true rfl) (Nat.le_of_ble_eq_true rfl) (by decide) (fun _ => rfl) (xok_z rfl) (by decide) (by decide) (by decide +kernel) (by decide +kernel) (by decide +kernel) ?_
  show xwp G m_M_init (d + 219) 92 [xR 53, xZ] [xR 64, xR 53] xK79 _ _
  refine xr_putfF (pc := 92) (ci := 11) (k := 16) (N := 38) (v9 := 2) (T := xF11) (tF := xT11) (hI := d_M_init_92) (hw := w_1603) rfl xi11 xt11 xn11 (Or.inl rfl) (Nat.le_of_ble_eq_true rfl) (Nat.le_of_ble_eq_true rfl) rfl (xfit_a _) rfl rfl rfl (by decide +kernel) (by decide) (fun z => z) ?_
  refine xr_aload_n (pc := 95) (i := 0) (hI := d_M_init_95) (hi := rfl) (hl := rfl) ?_
  refine xr_sipush (pc := 96) (hI := d_M_init_96) (hr := by decide) (hv := by decide) ?_
  refine xn_newarray (pc := 99) (A := 65) (t := 100) (hI := d_M_init_99) rfl w_79 rfl (Nat.le_of_ble_eq_true rfl) (Nat.le_of_ble_eq_true rfl) (by decide) (fun _ => rfl) (xok_z rfl) (by decide) (by decide) (by decide +kernel) (by decide +kernel) (by decide +kernel) ?_
  show xwp G m_M_init (d + 219) 101 [xR 53, xZ] [xR 65, xR 53] xK80 _ _
  refine xr_putfF (pc := 101) (ci := 11) (k := 17) (N := 38) (v9 := 2) (T := xF11) (tF := xT11) (hI := d_M_init_101) (hw := w_1604) rfl xi11 xt11 xn11 (Or.inl rfl) (Nat.le_of_ble_eq_true rfl) (Nat.le_of_ble_eq_true rfl) rfl (xfit_a _) rfl rfl rfl (by decide +kernel) (by decide) (fun z => z) ?_
  refine xr_aload_n (pc := 104) (i := 0) (hI := d_M_init_104) (hi := rfl) (hl := rfl) ?_
  refine xn_new (pc := 105) (A := 66) (ci := 12) (N := 13) (T := xF12) (tF := xT12) (hI := d_M_init_105) w_1530 xj12 w_16 rfl xi12 xt12 (Nat.le_of_ble_eq_true rfl) xd712 xdf12 (by decide +kernel) (by decide +kernel) (by decide +kernel) ?_
  show xwp G m_M_init (d + 219) 108 [xR 53, xZ] [xR 66, xR 53] xK81 _ _
  refine xr_dup (pc := 108) (hI := d_M_init_108) (hv := rfl) ?_
  refine xq_callIN (pc := 109) (index := 50) (K := m_MQ_init) (As := []) (S := [xR 66, xR 53]) (L0 := [xR 66]) (hI := d_M_init_109) (hK := k_MQ_init) (hlk := w_1532) (hnoM := rfl) (hS8 := Nat.le_of_ble_eq_true rfl) (hb0 := by decide) (hinst := w_1533) (hname := rfl) (hret := rfl) (hlen := Nat.le_of_ble_eq_true rfl) (hst := rfl) (hL0 := rfl) ?_
  refine cs_30 ?_
  show xwp G m_M_init (d + 219) 112 [xR 53, xZ] [xR 66, xR 53] _ _ _
  refine xr_putf (pc := 112) (ci := 11) (k := 19) (N := 38) (v9 := 2) (T := xF11) (tF := xT11) (hI := d_M_init_112) (hw := w_1606) rfl xi11 xt11 xn11 (Or.inl rfl) (Nat.le_of_ble_eq_true rfl) (Nat.le_of_ble_eq_true rfl) rfl (xfit_o _) rfl (by decide +kernel) (by decide) (fun z => z) ?_
  refine xr_aload_n (pc := 115) (i := 0) (hI := d_M_init_115) (hi := rfl) (hl := rfl) ?_
  refine xr_aload_n (pc := 116) (i := 0) (hI := d_M_init_116) (hi := rfl) (hl := rfl) ?_
  show xwp G m_M_init (d + 219) 117 [xR 53, xZ] [xR 53, xR 53] xK94 _ _
  refine xg_getf (pc := 117) (ci := 11) (k := 19) (N := 38) (v9 := 2) (v := 66) (T := xF11) (hI := d_M_init_117) (hw := w_1606) rfl xi11 (Or.inl rfl) (Nat.le_of_ble_eq_true rfl) (Nat.le_of_ble_eq_true rfl) rfl (by decide +kernel) (by decide +kernel) (fun _ => ?_)
  refine xr_putf (pc := 120) (ci := 11) (k := 20) (N := 38) (v9 := 2) (T := xF11) (tF := xT11) (hI := d_M_init_120) (hw := w_1607) rfl xi11 xt11 xn11 (Or.inl rfl) (Nat.le_of_ble_eq_true rfl) (Nat.le_of_ble_eq_true rfl) rfl (xfit_o _) rfl (by decide +kernel) (by decide) (fun z => z) ?_
  refine xr_aload_n (pc := 123) (i := 0) (hI := d_M_init_123) (hi := rfl) (hl := rfl) ?_
  refine xr_bipush (pc := 124) (hI := d_M_init_124) (hr := by decide) (hv := by decide) ?_
  refine xn_newarray (pc := 126) (A := 78) (t := 100) (hI := d_M_init_126) rfl w_79 rfl (Nat.le_of_ble_eq_true rfl) (Nat.le_of_ble_eq_true rfl) (by decide) (fun _ => rfl) (xok_z rfl) (by decide) (by decide) (by decide +kernel) (by decide +kernel) (by decide +kernel) ?_
  show xwp G m_M_init (d + 219) 128 [xR 53, xZ] [xR 78, xR 53] xK95 _ _
  refine xr_putfF (pc := 128) (ci := 11) (k := 21) (N := 38) (v9 := 2) (T := xF11) (tF := xT11) (hI := d_M_init_128) (hw := w_1608) rfl xi11 xt11 xn11 (Or.inl rfl) (Nat.le_of_ble_eq_true rfl) (Nat.le_of_ble_eq_true rfl) rfl (xfit_a _) rfl rfl rfl (by decide +kernel) (by decide) (fun z => z) ?_
  refine xr_aload_n (pc := 131) (i := 0) (hI := d_M_init_131) (hi := rfl) (hl := rfl) ?_
  refine xr_bipush (pc := 132) (hI := d_M_init_132) (hr := by decide) (hv := by decide) ?_
  refine xn_newarray (pc := 134) (A := 79) (t := 100) (hI := d_M_init_134) rfl w_79 rfl (Nat.le_of_ble_eq_true rfl) (Nat.le_of_ble_eq_true rfl) (by decide) (fun _ => rfl) (xok_z rfl) (by decide) (by decide) (by decide +kernel) (by decide +kernel) (by decide +kernel) ?_
  show xwp G m_M_init (d + 219) 136 [xR 53, xZ] [xR 79, xR 53] xK96 _ _
  refine xr_putfF (pc := 136) (ci := 11) (k := 22) (N := 38) (v9 := 2) (T := xF11) (tF := xT11) (hI := d_M_init_136) (hw := w_1609) rfl xi11 xt11 xn11 (Or.inl rfl) (Nat.le_of_ble_eq_true rfl) (Nat.le_of_ble_eq_true rfl) rfl (xfit_a _) rfl rfl rfl (by decide +kernel) (by decide) (fun z => z) ?_
  refine xr_aload_n (pc := 139) (i := 0) (hI := d_M_init_139) (hi := rfl) (hl := rfl) ?_
  refine xr_bipush (pc := 140) (hI := d_M_init_140) (hr := by decide) (hv := by decide) ?_
  refine xn_newarray (pc := 142) (A := 80) (t := 100) (hI := d_M_init_142) rfl w_79 rfl (Nat.le_of_ble_eq_true rfl) (Nat.le_of_ble_eq_true rfl) (by decide) (fun _ => rfl) (xok_z rfl) (by decide) (by decide) (by decide +kernel) (by decide +kernel) (by decide +kernel) ?_
  show xwp G m_M_init (d + 219) 144 [xR 53, xZ] [xR 80, xR 53] xK97 _ _
  refine xr_putfF (pc := 144) (ci := 11) (k := 23) (N := 38) (v9 := 2) (T := xF11) (tF := xT11) (hI := d_M_init_144) (hw := w_1610) rfl xi11 xt11 xn11 (Or.inl rfl) (Nat.le_of_ble_eq_true rfl) (Nat.le_of_ble_eq_true rfl) rfl (xfit_a _) rfl rfl rfl (by decide +kernel) (by decide) (fun z => z) ?_
  refine xr_aload_n (pc := 147) (i := 0) (hI := d_M_init_147) (hi := rfl) (hl := rfl) ?_
  refine xr_sipush (pc := 148) (hI := d_M_init_148) (hr := by decide) (hv := by decide) ?_
  refine xn_newarray (pc := 151) (A := 81) (t := 100) (hI := d_M_init_151) rfl w_79 rfl (Nat.le_of_ble_eq_true rfl) (Nat.le_of_ble_eq_true rfl) (by decide) (fun _ => rfl) (xok_z rfl) (by decide) (by decide) (by decide +kernel) (by decide +kernel) (by decide +kernel) ?_
  show xwp G m_M_init (d + 219) 153 [xR 53, xZ] [xR 81, xR 53] xK98 _ _
  refine xr_putfF (pc := 153) (ci := 11) (k := 27) (N := 38) (v9 := 2) (T := xF11) (tF := xT11) (hI := d_M_init_153) (hw := w_1614) rfl xi11 xt11 xn11 (Or.inl rfl) (Nat.le_of_ble_eq_true rfl) (Nat.le_of_ble_eq_true rfl) rfl (xfit_a _) rfl rfl rfl (by decide +kernel) (by decide) (fun z => z) ?_
  refine xr_aload_n (pc := 156) (i := 0) (hI := d_M_init_156) (hi := rfl) (hl := rfl) ?_
  refine xr_sipush (pc := 157) (hI := d_M_init_157) (hr := by decide) (hv := by decide) ?_
  refine xn_newarray (pc := 160) (A := 82) (t := 100) (hI := d_M_init_160) rfl w_79 rfl (Nat.le_of_ble_eq_true rfl) (Nat.le_of_ble_eq_true rfl) (by decide) (fun _ => rfl) (xok_z rfl) (by decide) (by decide) (by decide +kernel) (by decide +kernel) (by decide +kernel) ?_
  show xwp G m_M_init (d + 219) 162 [xR 53, xZ] [xR 82, xR 53] xK99 _ _
  refine xr_putfF (pc := 162) (ci := 11) (k := 28) (N := 38) (v9 := 2) (T := xF11) (tF := xT11) (hI := d_M_init_162) (hw := w_1615) rfl xi11 xt11 xn11 (Or.inl rfl) (Nat.le_of_ble_eq_true rfl) (Nat.le_of_ble_eq_true rfl) rfl (xfit_a _) rfl rfl rfl (by decide +kernel) (by decide) (fun z => z) ?_
  refine xr_aload_n (pc := 165) (i := 0) (hI := d_M_init_165) (hi := rfl) (hl := rfl) ?_
  refine xr_bipush (pc := 166) (hI := d_M_init_166) (hr := by decide) (hv := by decide) ?_
  refine xn_newarray (pc := 168) (A := 83) (t := 100) (hI := d_M_init_168) rfl w_79 rfl (Nat.le_of_ble_eq_true rfl) (Nat.le_of_ble_eq_true rfl) (by decide) (fun _ => rfl) (xok_z rfl) (by decide) (by decide) (by decide +kernel) (by decide +kernel) (by decide +kernel) ?_
  show xwp G m_M_init (d + 219) 170 [xR 53, xZ] [xR 83, xR 53] xK100 _ _
  refine xr_putfF (pc := 170) (ci := 11) (k := 29) (N := 38) (v9 := 2) (T := xF11) (tF := xT11) (hI := d_M_init_170) (hw := w_1616) rfl xi11 xt11 xn11 (Or.inl rfl) (Nat.le_of_ble_eq_true rfl) (Nat.le_of_ble_eq_true rfl) rfl (xfit_a _) rfl rfl rfl (by decide +kernel) (by decide) (fun z => z) ?_
  refine xr_aload_n (pc := 173) (i := 0) (hI := d_M_init_173) (hi := rfl) (hl := rfl) ?_
  refine xr_iconst (pc := 174) (hI := d_M_init_174) (hr := by decide) ?_
  refine xn_newarray (pc := 175) (A := 84) (t := 100) (hI := d_M_init_175) rfl w_79 rfl (Nat.le_of_ble_eq_true rfl) (Nat.le_of_ble_eq_true rfl) (by decide) (fun _ => rfl) (xok_z rfl) (by decide) (by decide) (by decide +kernel) (by decide +kernel) (by decide +kernel) ?_
  show xwp G m_M_init (d + 219) 177 [xR 53, xZ] [xR 84, xR 53] xK101 _ _
  refine xr_putfF (pc := 177) (ci := 11) (k := 30) (N := 38) (v9 := 2) (T := xF11) (tF := xT11) (hI := d_M_init_177) (hw := w_1617) rfl xi11 xt11 xn11 (Or.inl rfl) (Nat.le_of_ble_eq_true rfl) (Nat.le_of_ble_eq_true rfl) rfl (xfit_a _) rfl rfl rfl (by decide +kernel) (by decide) (fun z => z) ?_
  refine xr_aload_n (pc := 180) (i := 0) (hI := d_M_init_180) (hi := rfl) (hl := rfl) ?_
  refine xr_bipush (pc := 181) (hI := d_M_init_181) (hr := by decide) (hv := by decide) ?_
  refine xn_newarray (pc := 183) (A := 85) (t := 102) (hI := d_M_init_183) rfl w_427 rfl (Nat.le_of_ble_eq_true rfl) (Nat.le_of_ble_eq_true rfl) (by decide) (fun _ => rfl) (xok_z rfl) (by decide) (by decide) (by decide +kernel) (by decide +kernel) (by decide +kernel) ?_
  show xwp G m_M_init (d + 219) 185 [xR 53, xZ] [xR 85, xR 53] xK102 _ _
  refine xr_putfF (pc := 185) (ci := 11) (k := 31) (N := 38) (v9 := 2) (T := xF11) (tF := xT11) (hI := d_M_init_185) (hw := w_1618) rfl xi11 xt11 xn11 (Or.inl rfl) (Nat.le_of_ble_eq_true rfl) (Nat.le_of_ble_eq_true rfl) rfl (xfit_a _) rfl rfl rfl (by decide +kernel) (by decide) (fun z => z) ?_
  refine xr_aload_n (pc := 188) (i := 0) (hI := d_M_init_188) (hi := rfl) (hl := rfl) ?_
  refine xr_bipush (pc := 189) (hI := d_M_init_189) (hr := by decide) (hv := by decide) ?_
  refine xn_newarray (pc := 191) (A := 86) (t := 100) (hI := d_M_init_191) rfl w_79 rfl (Nat.le_of_ble_eq_true rfl) (Nat.le_of_ble_eq_true rfl) (by decide) (fun _ => rfl) (xok_z rfl) (by decide) (by decide) (by decide +kernel) (by decide +kernel) (by decide +kernel) ?_
  show xwp G m_M_init (d + 219) 193 [xR 53, xZ] [xR 86, xR 53] xK103 _ _
  refine xr_putfF (pc := 193) (ci := 11) (k := 32) (N := 38) (v9 := 2) (T := xF11) (tF := xT11) (hI := d_M_init_193) (hw := w_1619) rfl xi11 xt11 xn11 (Or.inl rfl) (Nat.le_of_ble_eq_true rfl) (Nat.le_of_ble_eq_true rfl) rfl (xfit_a _) rfl rfl rfl (by decide +kernel) (by decide) (fun z => z) ?_
  refine xr_aload_n (pc := 196) (i := 0) (hI := d_M_init_196) (hi := rfl) (hl := rfl) ?_
  refine xr_bipush (pc := 197) (hI := d_M_init_197) (hr := by decide) (hv := by decide) ?_
  refine xn_newarray (pc := 199) (A := 87) (t := 100) (hI := d_M_init_199) rfl w_79 rfl (Nat.le_of_ble_eq_true rfl) (Nat.le_of_ble_eq_true rfl) (by decide) (fun _ => rfl) (xok_z rfl) (by decide) (by decide) (by decide +kernel) (by decide +kernel) (by decide +kernel) ?_
  show xwp G m_M_init (d + 219) 201 [xR 53, xZ] [xR 87, xR 53] xK104 _ _
  refine xr_putfF (pc := 201) (ci := 11) (k := 33) (N := 38) (v9 := 2) (T := xF11) (tF := xT11) (hI := d_M_init_201) (hw := w_1620) rfl xi11 xt11 xn11 (Or.inl rfl) (Nat.le_of_ble_eq_true rfl) (Nat.le_of_ble_eq_true rfl) rfl (xfit_a _) rfl rfl rfl (by decide +kernel) (by decide) (fun z => z) ?_
  refine xr_aload_n (pc := 204) (i := 0) (hI := d_M_init_204) (hi := rfl) (hl := rfl) ?_
  refine xr_bipush (pc := 205) (hI := d_M_init_205) (hr := by decide) (hv := by decide) ?_
  refine xn_newarray (pc := 207) (A := 88) (t := 100) (hI := d_M_init_207) rfl w_79 rfl (Nat.le_of_ble_eq_true rfl) (Nat.le_of_ble_eq_true rfl) (by decide) (fun _ => rfl) (xok_z rfl) (by decide) (by decide) (by decide +kernel) (by decide +kernel) (by decide +kernel) ?_
  show xwp G m_M_init (d + 219) 209 [xR 53, xZ] [xR 88, xR 53] xK105 _ _
  refine xr_putfF (pc := 209) (ci := 11) (k := 34) (N := 38) (v9 := 2) (T := xF11) (tF := xT11) (hI := d_M_init_209) (hw := w_1621) rfl xi11 xt11 xn11 (Or.inl rfl) (Nat.le_of_ble_eq_true rfl) (Nat.le_of_ble_eq_true rfl) rfl (xfit_a _) rfl rfl rfl (by decide +kernel) (by decide) (fun z => z) ?_
  refine xr_aload_n (pc := 212) (i := 0) (hI := d_M_init_212) (hi := rfl) (hl := rfl) ?_
  refine xr_bipush (pc := 213) (hI := d_M_init_213) (hr := by decide) (hv := by decide) ?_
  refine xn_newarray (pc := 215) (A := 89) (t := 100) (hI := d_M_init_215) rfl w_79 rfl (Nat.le_of_ble_eq_true rfl) (Nat.le_of_ble_eq_true rfl) (by decide) (fun _ => rfl) (xok_z rfl) (by decide) (by decide) (by decide +kernel) (by decide +kernel) (by decide +kernel) ?_
  show xwp G m_M_init (d + 219) 217 [xR 53, xZ] [xR 89, xR 53] xK106 _ _
  refine xr_putfF (pc := 217) (ci := 11) (k := 36) (N := 38) (v9 := 2) (T := xF11) (tF := xT11) (hI := d_M_init_217) (hw := w_1623) rfl xi11 xt11 xn11 (Or.inl rfl) (Nat.le_of_ble_eq_true rfl) (Nat.le_of_ble_eq_true rfl) rfl (xfit_a _) rfl rfl rfl (by decide +kernel) (by decide) (fun z => z) ?_
  refine xr_aload_n (pc := 220) (i := 0) (hI := d_M_init_220) (hi := rfl) (hl := rfl) ?_
  refine xr_bipush (pc := 221) (hI := d_M_init_221) (hr := by decide) (hv := by decide) ?_
  refine xn_newarray (pc := 223) (A := 90) (t := 100) (hI := d_M_init_223) rfl w_79 rfl (Nat.le_of_ble_eq_true rfl) (Nat.le_of_ble_eq_true rfl) (by decide) (fun _ => rfl) (xok_z rfl) (by decide) (by decide) (by decide +kernel) (by decide +kernel) (by decide +kernel) ?_
  show xwp G m_M_init (d + 219) 225 [xR 53, xZ] [xR 90, xR 53] xK107 _ _
  refine xr_putfF (pc := 225) (ci := 11) (k := 37) (N := 38) (v9 := 2) (T := xF11) (tF := xT11) (hI := d_M_init_225) (hw := w_1624) rfl xi11 xt11 xn11 (Or.inl rfl) (Nat.le_of_ble_eq_true rfl) (Nat.le_of_ble_eq_true rfl) rfl (xfit_a _) rfl rfl rfl (by decide +kernel) (by decide) (fun z => z) ?_
  refine xr_iconst (pc := 228) (hI := d_M_init_228) (hr := by decide) ?_
  refine xr_istore_n (pc := 229) (i := 1) (L9 := [xR 53, xI 0]) (hI := d_M_init_229) (hi := rfl) (hn := Nat.le_of_ble_eq_true rfl) (hL9 := rfl) ?_
  show xwp G m_M_init (d + 219) 230 [xR 53, xI 0] [] xK108 _ _
  refine row_loop (k9 := 0) (by decide +kernel) (by decide +kernel) (by decide +kernel) (by decide +kernel) (by decide +kernel) ?_
  exact q
def xK110 : XH := xmkn xK109 91 101 1 (fun _ => 0)
def xK111 : XH := xmkn xK110 92 105 1 (fun _ => 0)
theorem law_start {G : XG} {d : Nat} {nm9 : String} {hq9 : List (Nat × Nat × Nat × Nat)} {Q : XV → XH → Prop} {X : Nat → XH → Prop} (q : xwp G (m_W_law nm9 hq9) (d + 220) 28 [xR (-108), xR 0, xR 53, xR 91, xR 92, xI 0, xZ, xZ, xZ] [] xK111 Q X) : xwp G (m_W_law nm9 hq9) (d + 220) 0 [xR (-108), xZ, xZ, xZ, xZ, xZ, xZ, xZ, xZ] [] xH0 Q X := by
  refine xn_new (pc := 0) (A := 0) (ci := 0) (N := 7) (T := xF0) (tF := xT0) (hI := d_W_law_0) w_40 xj0 w_1 rfl xi0 xt0 (Nat.le_of_ble_eq_true rfl) xd70 xdf0 (by decide +kernel) (by decide +kernel) (by decide +kernel) ?_
  show xwp G (m_W_law nm9 hq9) (d + 220) 3 [xR (-108), xZ, xZ, xZ, xZ, xZ, xZ, xZ, xZ] [xR 0] xK1 _ _
  refine xr_dup (pc := 3) (hI := d_W_law_3) (hv := rfl) ?_
  refine xl_callI (pc := 4) (index := 104) (K := m_B_init) (As := []) (S := [xR 0]) (L0 := [xR 0]) (hI := d_W_law_4) (hK := k_B_init) (hlk := w_42) (hS8 := Nat.le_of_ble_eq_true rfl) (hb0 := by decide) (hinst := w_43) (hname := rfl) (hret := rfl) (hlen := Nat.le_of_ble_eq_true rfl) (hst := rfl) (hL0 := rfl) ?_
  refine cs_29 ?_
  show xwp G (m_W_law nm9 hq9) (d + 220) 7 [xR (-108), xZ, xZ, xZ, xZ, xZ, xZ, xZ, xZ] [xR 0] _ _ _
  refine xr_astore_n (pc := 7) (i := 1) (L9 := [xR (-108), xR 0, xZ, xZ, xZ, xZ, xZ, xZ, xZ]) (hI := d_W_law_7) (hi := rfl) (hn := Nat.le_of_ble_eq_true rfl) (hL9 := rfl) ?_
  refine xn_new (pc := 8) (A := 53) (ci := 11) (N := 38) (T := xF11) (tF := xT11) (hI := d_W_law_8) w_1524 xj11 w_15 rfl xi11 xt11 (Nat.le_of_ble_eq_true rfl) xd711 xdf11 (by decide +kernel) (by decide +kernel) (by decide +kernel) ?_
  show xwp G (m_W_law nm9 hq9) (d + 220) 11 [xR (-108), xR 0, xZ, xZ, xZ, xZ, xZ, xZ, xZ] [xR 53] xK68 _ _
  refine xr_dup (pc := 11) (hI := d_W_law_11) (hv := rfl) ?_
  refine xl_callI (pc := 12) (index := 107) (K := m_M_init) (As := []) (S := [xR 53]) (L0 := [xR 53, xZ]) (hI := d_W_law_12) (hK := k_M_init) (hlk := w_1526) (hS8 := Nat.le_of_ble_eq_true rfl) (hb0 := by decide) (hinst := w_1527) (hname := rfl) (hret := rfl) (hlen := Nat.le_of_ble_eq_true rfl) (hst := rfl) (hL0 := rfl) ?_
  refine cs_31 ?_
  show xwp G (m_W_law nm9 hq9) (d + 220) 15 [xR (-108), xR 0, xZ, xZ, xZ, xZ, xZ, xZ, xZ] [xR 53] _ _ _
  refine xr_astore_n (pc := 15) (i := 2) (L9 := [xR (-108), xR 0, xR 53, xZ, xZ, xZ, xZ, xZ, xZ]) (hI := d_W_law_15) (hi := rfl) (hn := Nat.le_of_ble_eq_true rfl) (hL9 := rfl) ?_
  refine xr_iconst (pc := 16) (hI := d_W_law_16) (hr := by decide) ?_
  refine xn_newarray (pc := 17) (A := 91) (t := 101) (hI := d_W_law_17) rfl w_80 rfl (Nat.le_of_ble_eq_true rfl) (Nat.le_of_ble_eq_true rfl) (by decide) (fun _ => rfl) (xok_z rfl) (by decide) (by decide) (by decide +kernel) (by decide +kernel) (by decide +kernel) ?_
  show xwp G (m_W_law nm9 hq9) (d + 220) 19 [xR (-108), xR 0, xR 53, xZ, xZ, xZ, xZ, xZ, xZ] [xR 91] xK110 _ _
  refine xr_astore_n (pc := 19) (i := 3) (L9 := [xR (-108), xR 0, xR 53, xR 91, xZ, xZ, xZ, xZ, xZ]) (hI := d_W_law_19) (hi := rfl) (hn := Nat.le_of_ble_eq_true rfl) (hL9 := rfl) ?_
  refine xr_iconst (pc := 20) (hI := d_W_law_20) (hr := by decide) ?_
  refine xn_newarray (pc := 21) (A := 92) (t := 105) (hI := d_W_law_21) rfl w_2496 rfl (Nat.le_of_ble_eq_true rfl) (Nat.le_of_ble_eq_true rfl) (by decide) (fun _ => rfl) (xok_z rfl) (by decide) (by decide) (by decide +kernel) (by decide +kernel) (by decide +kernel) ?_
  show xwp G (m_W_law nm9 hq9) (d + 220) 23 [xR (-108), xR 0, xR 53, xR 91, xZ, xZ, xZ, xZ, xZ] [xR 92] xK111 _ _
  refine xr_astore (pc := 23) (i := 4) (L9 := [xR (-108), xR 0, xR 53, xR 91, xR 92, xZ, xZ, xZ, xZ]) (hI := d_W_law_23) (hn := Nat.le_of_ble_eq_true rfl) (hL9 := rfl) ?_
  refine xr_iconst (pc := 25) (hI := d_W_law_25) (hr := by decide) ?_
  refine xr_istore (pc := 26) (i := 5) (L9 := [xR (-108), xR 0, xR 53, xR 91, xR 92, xI 0, xZ, xZ, xZ]) (hI := d_W_law_26) (hn := Nat.le_of_ble_eq_true rfl) (hL9 := rfl) ?_
  exact q

end
