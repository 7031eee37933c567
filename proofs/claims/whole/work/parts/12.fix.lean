/-! ===== the fixed cells: what the constructors lay, the constants ===== -/
section XFIX
def xfT : List (Int × Nat × Int) := [((-104), 112, 8), ((-103), 110, 0), ((-102), 101, 13), ((-81), 103, 2), ((-80), 14, 2), ((-79), 103, 2), ((-78), 14, 2), ((-77), 103, 2), ((-76), 14, 2), ((-75), 103, 3), ((-74), 14, 2), ((-73), 103, 2), ((-72), 14, 2), ((-71), 103, 2), ((-70), 14, 2), ((-69), 103, 1), ((-68), 14, 2), ((-67), 103, 3), ((-66), 14, 2), ((-65), 103, 4), ((-64), 14, 2), ((-63), 103, 5), ((-62), 14, 2), ((-61), 103, 9), ((-60), 14, 2), ((-49), 103, 2), ((-48), 14, 2), ((-47), 103, 3), ((-46), 14, 2), ((-45), 103, 2), ((-44), 14, 2), ((-43), 103, 2), ((-42), 14, 2), ((-41), 103, 1), ((-40), 14, 2), ((-39), 103, 4), ((-38), 14, 2), ((-37), 103, 3), ((-36), 14, 2), ((-35), 103, 4), ((-34), 14, 2), ((-33), 103, 5), ((-32), 14, 2), ((-31), 103, 2), ((-30), 14, 2), ((-29), 103, 2), ((-28), 14, 2), ((-27), 103, 2), ((-26), 14, 2), ((-25), 103, 3), ((-24), 14, 2), ((-23), 103, 2), ((-22), 14, 2), ((-21), 103, 2), ((-20), 14, 2), ((-19), 103, 1), ((-18), 14, 2), ((-17), 103, 3), ((-16), 14, 2), ((-15), 103, 2), ((-14), 14, 2), ((-13), 103, 3), ((-12), 14, 2), ((-11), 103, 2), ((-10), 14, 2), ((-9), 103, 2), ((-8), 14, 2), ((-7), 103, 1), ((-6), 14, 2), ((-5), 103, 4), ((-4), 14, 2), ((-3), 103, 3), ((-2), 14, 2), (0, 0, 7), (1, 8, 7), (2, 100, 400), (3, 101, 200), (4, 100, 12), (5, 7, 6), (6, 13, 3), (7, 13, 3), (8, 100, 60), (9, 9, 6), (10, 101, 0), (11, 101, 0), (12, 10, 7), (13, 101, 64), (14, 100, 64), (15, 100, 64), (16, 111, 13), (17, 100, 13), (18, 100, 13), (19, 100, 13), (20, 100, 13), (21, 100, 13), (22, 100, 13), (23, 100, 13), (24, 100, 13), (25, 100, 13), (26, 100, 13), (27, 100, 13), (28, 100, 13), (29, 100, 13), (30, 100, 12), (31, 100, 12), (32, 6, 15), (33, 101, 40), (34, 13, 3), (35, 4, 13), (36, 101, 0), (37, 5, 5), (38, 13, 3), (39, 13, 3), (40, 1, 6), (41, 2, 4), (42, 100, 4800), (43, 100, 4800), (44, 100, 2), (45, 3, 6), (46, 101, 40), (47, 100, 40), (48, 102, 2400), (49, 100, 2400), (50, 100, 60), (51, 100, 60), (52, 13, 3), (53, 11, 38), (54, 100, 400), (55, 100, 60), (56, 100, 60), (57, 100, 60), (58, 100, 60), (59, 100, 60), (60, 102, 60), (61, 100, 120), (62, 101, 12000), (63, 100, 12), (64, 101, 12000), (65, 100, 169), (66, 12, 13), (67, 100, 41), (68, 100, 41), (69, 100, 41), (70, 100, 41), (71, 100, 41), (72, 100, 41), (73, 100, 41), (74, 100, 41), (75, 100, 41), (76, 101, 42), (77, 100, 42), (78, 100, 41), (79, 100, 41), (80, 100, 41), (81, 100, 4920), (82, 100, 4920), (83, 100, 82), (84, 100, 2), (85, 102, 41), (86, 100, 41), (87, 100, 40), (88, 100, 40), (89, 100, 60), (90, 100, 60), (91, 101, 1), (92, 105, 1)]
def xfP : List (Int × Int × Int) := [((-104), 0, (-66)), ((-104), 1, (-68)), ((-104), 2, (-70)), ((-104), 3, (-72)), ((-104), 4, (-74)), ((-104), 5, (-76)), ((-104), 6, (-78)), ((-104), 7, (-80)), ((-102), 0, 1), ((-102), 1, 37), ((-102), 2, 1369), ((-102), 3, 50653), ((-102), 4, 1874161), ((-102), 5, 69343957), ((-102), 6, 2565726409), ((-102), 7, 94931877133), ((-102), 8, 3512479453921), ((-102), 9, 129961739795077), ((-102), 10, 4808584372417849), ((-102), 11, 177917621779460413), ((-102), 12, 6582952005840035281), ((-81), 0, 105), ((-81), 1, 110), ((-80), 0, (-81)), ((-80), 1, 0), ((-79), 0, 116), ((-79), 1, 111), ((-78), 0, (-79)), ((-78), 1, 0), ((-77), 0, 111), ((-77), 1, 114), ((-76), 0, (-77)), ((-76), 1, 0), ((-75), 0, 97), ((-75), 1, 110), ((-75), 2, 100), ((-74), 0, (-75)), ((-74), 1, 0), ((-73), 0, 111), ((-73), 1, 102), ((-72), 0, (-73)), ((-72), 1, 0), ((-71), 0, 97), ((-71), 1, 110), ((-70), 0, (-71)), ((-70), 1, 0), ((-69), 0, 97), ((-68), 0, (-69)), ((-68), 1, 0), ((-67), 0, 116), ((-67), 1, 104), ((-67), 2, 101), ((-66), 0, (-67)), ((-66), 1, 0), ((-65), 0, 98), ((-65), 1, 111), ((-65), 2, 100), ((-65), 3, 121), ((-64), 0, (-65)), ((-64), 1, 0), ((-63), 0, 116), ((-63), 1, 105), ((-63), 2, 116), ((-63), 3, 108), ((-63), 4, 101), ((-62), 0, (-63)), ((-62), 1, 0), ((-61), 0, 43), ((-61), 1, 45), ((-61), 2, 34), ((-61), 3, 42), ((-61), 4, 126), ((-61), 5, 94), ((-61), 6, 58), ((-61), 7, 40), ((-61), 8, 41), ((-60), 0, (-61)), ((-60), 1, 0), ((-49), 0, 101), ((-49), 1, 100), ((-48), 0, (-49)), ((-48), 1, 0), ((-47), 0, 105), ((-47), 1, 110), ((-47), 2, 103), ((-46), 0, (-47)), ((-46), 1, 0), ((-45), 0, 117), ((-45), 1, 115), ((-44), 0, (-45)), ((-44), 1, 0), ((-43), 0, 115), ((-43), 1, 115), ((-42), 0, (-43)), ((-42), 1, 0), ((-41), 0, 115), ((-40), 0, (-41)), ((-40), 1, 0), ((-39), 0, 115), ((-39), 1, 115), ((-39), 2, 101), ((-39), 3, 115), ((-38), 0, (-39)), ((-38), 1, 0), ((-37), 0, 105), ((-37), 1, 101), ((-37), 2, 115), ((-36), 0, (-37)), ((-36), 1, 0), ((-35), 0, 98), ((-35), 1, 111), ((-35), 2, 100), ((-35), 3, 121), ((-34), 0, (-35)), ((-34), 1, 0), ((-33), 0, 116), ((-33), 1, 105), ((-33), 2, 116), ((-33), 3, 108), ((-33), 4, 101), ((-32), 0, (-33)), ((-32), 1, 0), ((-31), 0, 105), ((-31), 1, 110), ((-30), 0, (-31)), ((-30), 1, 0), ((-29), 0, 116), ((-29), 1, 111), ((-28), 0, (-29)), ((-28), 1, 0), ((-27), 0, 111), ((-27), 1, 114), ((-26), 0, (-27)), ((-26), 1, 0), ((-25), 0, 97), ((-25), 1, 110), ((-25), 2, 100), ((-24), 0, (-25)), ((-24), 1, 0), ((-23), 0, 111), ((-23), 1, 102), ((-22), 0, (-23)), ((-22), 1, 0), ((-21), 0, 97), ((-21), 1, 110), ((-20), 0, (-21)), ((-20), 1, 0), ((-19), 0, 97), ((-18), 0, (-19)), ((-18), 1, 0), ((-17), 0, 116), ((-17), 1, 104), ((-17), 2, 101), ((-16), 0, (-17)), ((-16), 1, 0), ((-15), 0, 101), ((-15), 1, 100), ((-14), 0, (-15)), ((-14), 1, 0), ((-13), 0, 105), ((-13), 1, 110), ((-13), 2, 103), ((-12), 0, (-13)), ((-12), 1, 0), ((-11), 0, 117), ((-11), 1, 115), ((-10), 0, (-11)), ((-10), 1, 0), ((-9), 0, 115), ((-9), 1, 115), ((-8), 0, (-9)), ((-8), 1, 0), ((-7), 0, 115), ((-6), 0, (-7)), ((-6), 1, 0), ((-5), 0, 115), ((-5), 1, 115), ((-5), 2, 101), ((-5), 3, 115), ((-4), 0, (-5)), ((-4), 1, 0), ((-3), 0, 105), ((-3), 1, 101), ((-3), 2, 115), ((-2), 0, (-3)), ((-2), 1, 0), (0, 0, 1), (0, 1, 5), (0, 2, 12), (0, 3, 32), (0, 4, 40), (1, 0, 2), (1, 1, 3), (1, 2, 4), (5, 0, 6), (5, 1, 7), (5, 2, 8), (5, 3, 9), (9, 0, 0), (9, 1, 0), (9, 2, 0), (9, 3, 10), (9, 4, 11), (12, 4, 16), (12, 5, 30), (12, 6, 31), (16, 0, 17), (16, 1, 18), (16, 2, 19), (16, 3, 20), (16, 4, 21), (16, 5, 22), (16, 6, 23), (16, 7, 24), (16, 8, 25), (16, 9, 26), (16, 10, 27), (16, 11, 28), (16, 12, 29), (32, 0, 33), (32, 2, 34), (32, 3, 35), (32, 4, 37), (35, 0, 0), (35, 1, 0), (35, 2, 2), (35, 3, 0), (35, 4, 36), (37, 0, 38), (40, 0, 41), (40, 1, 48), (40, 2, 49), (40, 3, 50), (40, 4, 51), (41, 0, 42), (41, 1, 43), (41, 2, 44), (41, 3, 45), (45, 0, 46), (45, 1, 47), (53, 1, 54), (53, 3, 55), (53, 7, 56), (53, 8, 57), (53, 9, 58), (53, 10, 59), (53, 11, 60), (53, 12, 61), (53, 13, 62), (53, 15, 63), (53, 16, 64), (53, 17, 65), (53, 21, 78), (53, 22, 79), (53, 23, 80), (53, 27, 81), (53, 28, 82), (53, 29, 83), (53, 30, 84), (53, 31, 85), (53, 32, 86), (53, 33, 87), (53, 34, 88), (53, 36, 89), (53, 37, 90), (66, 1, 67), (66, 2, 68), (66, 3, 69), (66, 4, 70), (66, 5, 71), (66, 6, 72), (66, 7, 73), (66, 8, 74), (66, 9, 75), (66, 11, 76), (66, 12, 77)]
abbrev xNF : Int := 93
def xFix (h : XH) : Prop := (∀ q ∈ xfT, xtg h q.1 = q.2.1 ∧ xln h q.1 = q.2.2) ∧ (∀ q ∈ xfP, xpl h q.1 q.2.1 = q.2.2) ∧ 93 ≤ xnx h
theorem ft_m104 {h : XH} (F : xFix h) : xtg h (-104) = 112 := (F.1 ((-104), 112, 8) (List.mem_of_getElem? (i := 0) rfl)).1
theorem fl_m104 {h : XH} (F : xFix h) : xln h (-104) = 8 := (F.1 ((-104), 112, 8) (List.mem_of_getElem? (i := 0) rfl)).2
theorem ft_m103 {h : XH} (F : xFix h) : xtg h (-103) = 110 := (F.1 ((-103), 110, 0) (List.mem_of_getElem? (i := 1) rfl)).1
theorem fl_m103 {h : XH} (F : xFix h) : xln h (-103) = 0 := (F.1 ((-103), 110, 0) (List.mem_of_getElem? (i := 1) rfl)).2
theorem ft_m102 {h : XH} (F : xFix h) : xtg h (-102) = 101 := (F.1 ((-102), 101, 13) (List.mem_of_getElem? (i := 2) rfl)).1
theorem fl_m102 {h : XH} (F : xFix h) : xln h (-102) = 13 := (F.1 ((-102), 101, 13) (List.mem_of_getElem? (i := 2) rfl)).2
theorem ft_m81 {h : XH} (F : xFix h) : xtg h (-81) = 103 := (F.1 ((-81), 103, 2) (List.mem_of_getElem? (i := 3) rfl)).1
theorem fl_m81 {h : XH} (F : xFix h) : xln h (-81) = 2 := (F.1 ((-81), 103, 2) (List.mem_of_getElem? (i := 3) rfl)).2
theorem ft_m80 {h : XH} (F : xFix h) : xtg h (-80) = 14 := (F.1 ((-80), 14, 2) (List.mem_of_getElem? (i := 4) rfl)).1
theorem ft_m79 {h : XH} (F : xFix h) : xtg h (-79) = 103 := (F.1 ((-79), 103, 2) (List.mem_of_getElem? (i := 5) rfl)).1
theorem fl_m79 {h : XH} (F : xFix h) : xln h (-79) = 2 := (F.1 ((-79), 103, 2) (List.mem_of_getElem? (i := 5) rfl)).2
theorem ft_m78 {h : XH} (F : xFix h) : xtg h (-78) = 14 := (F.1 ((-78), 14, 2) (List.mem_of_getElem? (i := 6) rfl)).1
theorem ft_m77 {h : XH} (F : xFix h) : xtg h (-77) = 103 := (F.1 ((-77), 103, 2) (List.mem_of_getElem? (i := 7) rfl)).1
theorem fl_m77 {h : XH} (F : xFix h) : xln h (-77) = 2 := (F.1 ((-77), 103, 2) (List.mem_of_getElem? (i := 7) rfl)).2
theorem ft_m76 {h : XH} (F : xFix h) : xtg h (-76) = 14 := (F.1 ((-76), 14, 2) (List.mem_of_getElem? (i := 8) rfl)).1
theorem ft_m75 {h : XH} (F : xFix h) : xtg h (-75) = 103 := (F.1 ((-75), 103, 3) (List.mem_of_getElem? (i := 9) rfl)).1
theorem fl_m75 {h : XH} (F : xFix h) : xln h (-75) = 3 := (F.1 ((-75), 103, 3) (List.mem_of_getElem? (i := 9) rfl)).2
theorem ft_m74 {h : XH} (F : xFix h) : xtg h (-74) = 14 := (F.1 ((-74), 14, 2) (List.mem_of_getElem? (i := 10) rfl)).1
theorem ft_m73 {h : XH} (F : xFix h) : xtg h (-73) = 103 := (F.1 ((-73), 103, 2) (List.mem_of_getElem? (i := 11) rfl)).1
theorem fl_m73 {h : XH} (F : xFix h) : xln h (-73) = 2 := (F.1 ((-73), 103, 2) (List.mem_of_getElem? (i := 11) rfl)).2
theorem ft_m72 {h : XH} (F : xFix h) : xtg h (-72) = 14 := (F.1 ((-72), 14, 2) (List.mem_of_getElem? (i := 12) rfl)).1
theorem ft_m71 {h : XH} (F : xFix h) : xtg h (-71) = 103 := (F.1 ((-71), 103, 2) (List.mem_of_getElem? (i := 13) rfl)).1
theorem fl_m71 {h : XH} (F : xFix h) : xln h (-71) = 2 := (F.1 ((-71), 103, 2) (List.mem_of_getElem? (i := 13) rfl)).2
theorem ft_m70 {h : XH} (F : xFix h) : xtg h (-70) = 14 := (F.1 ((-70), 14, 2) (List.mem_of_getElem? (i := 14) rfl)).1
theorem ft_m69 {h : XH} (F : xFix h) : xtg h (-69) = 103 := (F.1 ((-69), 103, 1) (List.mem_of_getElem? (i := 15) rfl)).1
theorem fl_m69 {h : XH} (F : xFix h) : xln h (-69) = 1 := (F.1 ((-69), 103, 1) (List.mem_of_getElem? (i := 15) rfl)).2
theorem ft_m68 {h : XH} (F : xFix h) : xtg h (-68) = 14 := (F.1 ((-68), 14, 2) (List.mem_of_getElem? (i := 16) rfl)).1
theorem ft_m67 {h : XH} (F : xFix h) : xtg h (-67) = 103 := (F.1 ((-67), 103, 3) (List.mem_of_getElem? (i := 17) rfl)).1
theorem fl_m67 {h : XH} (F : xFix h) : xln h (-67) = 3 := (F.1 ((-67), 103, 3) (List.mem_of_getElem? (i := 17) rfl)).2
theorem ft_m66 {h : XH} (F : xFix h) : xtg h (-66) = 14 := (F.1 ((-66), 14, 2) (List.mem_of_getElem? (i := 18) rfl)).1
theorem ft_m65 {h : XH} (F : xFix h) : xtg h (-65) = 103 := (F.1 ((-65), 103, 4) (List.mem_of_getElem? (i := 19) rfl)).1
theorem fl_m65 {h : XH} (F : xFix h) : xln h (-65) = 4 := (F.1 ((-65), 103, 4) (List.mem_of_getElem? (i := 19) rfl)).2
theorem ft_m64 {h : XH} (F : xFix h) : xtg h (-64) = 14 := (F.1 ((-64), 14, 2) (List.mem_of_getElem? (i := 20) rfl)).1
theorem ft_m63 {h : XH} (F : xFix h) : xtg h (-63) = 103 := (F.1 ((-63), 103, 5) (List.mem_of_getElem? (i := 21) rfl)).1
theorem fl_m63 {h : XH} (F : xFix h) : xln h (-63) = 5 := (F.1 ((-63), 103, 5) (List.mem_of_getElem? (i := 21) rfl)).2
theorem ft_m62 {h : XH} (F : xFix h) : xtg h (-62) = 14 := (F.1 ((-62), 14, 2) (List.mem_of_getElem? (i := 22) rfl)).1
theorem ft_m61 {h : XH} (F : xFix h) : xtg h (-61) = 103 := (F.1 ((-61), 103, 9) (List.mem_of_getElem? (i := 23) rfl)).1
theorem fl_m61 {h : XH} (F : xFix h) : xln h (-61) = 9 := (F.1 ((-61), 103, 9) (List.mem_of_getElem? (i := 23) rfl)).2
theorem ft_m60 {h : XH} (F : xFix h) : xtg h (-60) = 14 := (F.1 ((-60), 14, 2) (List.mem_of_getElem? (i := 24) rfl)).1
theorem ft_m49 {h : XH} (F : xFix h) : xtg h (-49) = 103 := (F.1 ((-49), 103, 2) (List.mem_of_getElem? (i := 25) rfl)).1
theorem fl_m49 {h : XH} (F : xFix h) : xln h (-49) = 2 := (F.1 ((-49), 103, 2) (List.mem_of_getElem? (i := 25) rfl)).2
theorem ft_m48 {h : XH} (F : xFix h) : xtg h (-48) = 14 := (F.1 ((-48), 14, 2) (List.mem_of_getElem? (i := 26) rfl)).1
theorem ft_m47 {h : XH} (F : xFix h) : xtg h (-47) = 103 := (F.1 ((-47), 103, 3) (List.mem_of_getElem? (i := 27) rfl)).1
theorem fl_m47 {h : XH} (F : xFix h) : xln h (-47) = 3 := (F.1 ((-47), 103, 3) (List.mem_of_getElem? (i := 27) rfl)).2
theorem ft_m46 {h : XH} (F : xFix h) : xtg h (-46) = 14 := (F.1 ((-46), 14, 2) (List.mem_of_getElem? (i := 28) rfl)).1
theorem ft_m45 {h : XH} (F : xFix h) : xtg h (-45) = 103 := (F.1 ((-45), 103, 2) (List.mem_of_getElem? (i := 29) rfl)).1
theorem fl_m45 {h : XH} (F : xFix h) : xln h (-45) = 2 := (F.1 ((-45), 103, 2) (List.mem_of_getElem? (i := 29) rfl)).2
theorem ft_m44 {h : XH} (F : xFix h) : xtg h (-44) = 14 := (F.1 ((-44), 14, 2) (List.mem_of_getElem? (i := 30) rfl)).1
theorem ft_m43 {h : XH} (F : xFix h) : xtg h (-43) = 103 := (F.1 ((-43), 103, 2) (List.mem_of_getElem? (i := 31) rfl)).1
theorem fl_m43 {h : XH} (F : xFix h) : xln h (-43) = 2 := (F.1 ((-43), 103, 2) (List.mem_of_getElem? (i := 31) rfl)).2
theorem ft_m42 {h : XH} (F : xFix h) : xtg h (-42) = 14 := (F.1 ((-42), 14, 2) (List.mem_of_getElem? (i := 32) rfl)).1
theorem ft_m41 {h : XH} (F : xFix h) : xtg h (-41) = 103 := (F.1 ((-41), 103, 1) (List.mem_of_getElem? (i := 33) rfl)).1
theorem fl_m41 {h : XH} (F : xFix h) : xln h (-41) = 1 := (F.1 ((-41), 103, 1) (List.mem_of_getElem? (i := 33) rfl)).2
theorem ft_m40 {h : XH} (F : xFix h) : xtg h (-40) = 14 := (F.1 ((-40), 14, 2) (List.mem_of_getElem? (i := 34) rfl)).1
theorem ft_m39 {h : XH} (F : xFix h) : xtg h (-39) = 103 := (F.1 ((-39), 103, 4) (List.mem_of_getElem? (i := 35) rfl)).1
theorem fl_m39 {h : XH} (F : xFix h) : xln h (-39) = 4 := (F.1 ((-39), 103, 4) (List.mem_of_getElem? (i := 35) rfl)).2
theorem ft_m38 {h : XH} (F : xFix h) : xtg h (-38) = 14 := (F.1 ((-38), 14, 2) (List.mem_of_getElem? (i := 36) rfl)).1
theorem ft_m37 {h : XH} (F : xFix h) : xtg h (-37) = 103 := (F.1 ((-37), 103, 3) (List.mem_of_getElem? (i := 37) rfl)).1
theorem fl_m37 {h : XH} (F : xFix h) : xln h (-37) = 3 := (F.1 ((-37), 103, 3) (List.mem_of_getElem? (i := 37) rfl)).2
theorem ft_m36 {h : XH} (F : xFix h) : xtg h (-36) = 14 := (F.1 ((-36), 14, 2) (List.mem_of_getElem? (i := 38) rfl)).1
theorem ft_m35 {h : XH} (F : xFix h) : xtg h (-35) = 103 := (F.1 ((-35), 103, 4) (List.mem_of_getElem? (i := 39) rfl)).1
theorem fl_m35 {h : XH} (F : xFix h) : xln h (-35) = 4 := (F.1 ((-35), 103, 4) (List.mem_of_getElem? (i := 39) rfl)).2
theorem ft_m34 {h : XH} (F : xFix h) : xtg h (-34) = 14 := (F.1 ((-34), 14, 2) (List.mem_of_getElem? (i := 40) rfl)).1
theorem ft_m33 {h : XH} (F : xFix h) : xtg h (-33) = 103 := (F.1 ((-33), 103, 5) (List.mem_of_getElem? (i := 41) rfl)).1
theorem fl_m33 {h : XH} (F : xFix h) : xln h (-33) = 5 := (F.1 ((-33), 103, 5) (List.mem_of_getElem? (i := 41) rfl)).2
theorem ft_m32 {h : XH} (F : xFix h) : xtg h (-32) = 14 := (F.1 ((-32), 14, 2) (List.mem_of_getElem? (i := 42) rfl)).1
theorem ft_m31 {h : XH} (F : xFix h) : xtg h (-31) = 103 := (F.1 ((-31), 103, 2) (List.mem_of_getElem? (i := 43) rfl)).1
theorem fl_m31 {h : XH} (F : xFix h) : xln h (-31) = 2 := (F.1 ((-31), 103, 2) (List.mem_of_getElem? (i := 43) rfl)).2
theorem ft_m30 {h : XH} (F : xFix h) : xtg h (-30) = 14 := (F.1 ((-30), 14, 2) (List.mem_of_getElem? (i := 44) rfl)).1
theorem ft_m29 {h : XH} (F : xFix h) : xtg h (-29) = 103 := (F.1 ((-29), 103, 2) (List.mem_of_getElem? (i := 45) rfl)).1
theorem fl_m29 {h : XH} (F : xFix h) : xln h (-29) = 2 := (F.1 ((-29), 103, 2) (List.mem_of_getElem? (i := 45) rfl)).2
theorem ft_m28 {h : XH} (F : xFix h) : xtg h (-28) = 14 := (F.1 ((-28), 14, 2) (List.mem_of_getElem? (i := 46) rfl)).1
theorem ft_m27 {h : XH} (F : xFix h) : xtg h (-27) = 103 := (F.1 ((-27), 103, 2) (List.mem_of_getElem? (i := 47) rfl)).1
theorem fl_m27 {h : XH} (F : xFix h) : xln h (-27) = 2 := (F.1 ((-27), 103, 2) (List.mem_of_getElem? (i := 47) rfl)).2
theorem ft_m26 {h : XH} (F : xFix h) : xtg h (-26) = 14 := (F.1 ((-26), 14, 2) (List.mem_of_getElem? (i := 48) rfl)).1
theorem ft_m25 {h : XH} (F : xFix h) : xtg h (-25) = 103 := (F.1 ((-25), 103, 3) (List.mem_of_getElem? (i := 49) rfl)).1
theorem fl_m25 {h : XH} (F : xFix h) : xln h (-25) = 3 := (F.1 ((-25), 103, 3) (List.mem_of_getElem? (i := 49) rfl)).2
theorem ft_m24 {h : XH} (F : xFix h) : xtg h (-24) = 14 := (F.1 ((-24), 14, 2) (List.mem_of_getElem? (i := 50) rfl)).1
theorem ft_m23 {h : XH} (F : xFix h) : xtg h (-23) = 103 := (F.1 ((-23), 103, 2) (List.mem_of_getElem? (i := 51) rfl)).1
theorem fl_m23 {h : XH} (F : xFix h) : xln h (-23) = 2 := (F.1 ((-23), 103, 2) (List.mem_of_getElem? (i := 51) rfl)).2
theorem ft_m22 {h : XH} (F : xFix h) : xtg h (-22) = 14 := (F.1 ((-22), 14, 2) (List.mem_of_getElem? (i := 52) rfl)).1
theorem ft_m21 {h : XH} (F : xFix h) : xtg h (-21) = 103 := (F.1 ((-21), 103, 2) (List.mem_of_getElem? (i := 53) rfl)).1
theorem fl_m21 {h : XH} (F : xFix h) : xln h (-21) = 2 := (F.1 ((-21), 103, 2) (List.mem_of_getElem? (i := 53) rfl)).2
theorem ft_m20 {h : XH} (F : xFix h) : xtg h (-20) = 14 := (F.1 ((-20), 14, 2) (List.mem_of_getElem? (i := 54) rfl)).1
theorem ft_m19 {h : XH} (F : xFix h) : xtg h (-19) = 103 := (F.1 ((-19), 103, 1) (List.mem_of_getElem? (i := 55) rfl)).1
theorem fl_m19 {h : XH} (F : xFix h) : xln h (-19) = 1 := (F.1 ((-19), 103, 1) (List.mem_of_getElem? (i := 55) rfl)).2
theorem ft_m18 {h : XH} (F : xFix h) : xtg h (-18) = 14 := (F.1 ((-18), 14, 2) (List.mem_of_getElem? (i := 56) rfl)).1
theorem ft_m17 {h : XH} (F : xFix h) : xtg h (-17) = 103 := (F.1 ((-17), 103, 3) (List.mem_of_getElem? (i := 57) rfl)).1
theorem fl_m17 {h : XH} (F : xFix h) : xln h (-17) = 3 := (F.1 ((-17), 103, 3) (List.mem_of_getElem? (i := 57) rfl)).2
theorem ft_m16 {h : XH} (F : xFix h) : xtg h (-16) = 14 := (F.1 ((-16), 14, 2) (List.mem_of_getElem? (i := 58) rfl)).1
theorem ft_m15 {h : XH} (F : xFix h) : xtg h (-15) = 103 := (F.1 ((-15), 103, 2) (List.mem_of_getElem? (i := 59) rfl)).1
theorem fl_m15 {h : XH} (F : xFix h) : xln h (-15) = 2 := (F.1 ((-15), 103, 2) (List.mem_of_getElem? (i := 59) rfl)).2
theorem ft_m14 {h : XH} (F : xFix h) : xtg h (-14) = 14 := (F.1 ((-14), 14, 2) (List.mem_of_getElem? (i := 60) rfl)).1
theorem ft_m13 {h : XH} (F : xFix h) : xtg h (-13) = 103 := (F.1 ((-13), 103, 3) (List.mem_of_getElem? (i := 61) rfl)).1
theorem fl_m13 {h : XH} (F : xFix h) : xln h (-13) = 3 := (F.1 ((-13), 103, 3) (List.mem_of_getElem? (i := 61) rfl)).2
theorem ft_m12 {h : XH} (F : xFix h) : xtg h (-12) = 14 := (F.1 ((-12), 14, 2) (List.mem_of_getElem? (i := 62) rfl)).1
theorem ft_m11 {h : XH} (F : xFix h) : xtg h (-11) = 103 := (F.1 ((-11), 103, 2) (List.mem_of_getElem? (i := 63) rfl)).1
theorem fl_m11 {h : XH} (F : xFix h) : xln h (-11) = 2 := (F.1 ((-11), 103, 2) (List.mem_of_getElem? (i := 63) rfl)).2
theorem ft_m10 {h : XH} (F : xFix h) : xtg h (-10) = 14 := (F.1 ((-10), 14, 2) (List.mem_of_getElem? (i := 64) rfl)).1
theorem ft_m9 {h : XH} (F : xFix h) : xtg h (-9) = 103 := (F.1 ((-9), 103, 2) (List.mem_of_getElem? (i := 65) rfl)).1
theorem fl_m9 {h : XH} (F : xFix h) : xln h (-9) = 2 := (F.1 ((-9), 103, 2) (List.mem_of_getElem? (i := 65) rfl)).2
theorem ft_m8 {h : XH} (F : xFix h) : xtg h (-8) = 14 := (F.1 ((-8), 14, 2) (List.mem_of_getElem? (i := 66) rfl)).1
theorem ft_m7 {h : XH} (F : xFix h) : xtg h (-7) = 103 := (F.1 ((-7), 103, 1) (List.mem_of_getElem? (i := 67) rfl)).1
theorem fl_m7 {h : XH} (F : xFix h) : xln h (-7) = 1 := (F.1 ((-7), 103, 1) (List.mem_of_getElem? (i := 67) rfl)).2
theorem ft_m6 {h : XH} (F : xFix h) : xtg h (-6) = 14 := (F.1 ((-6), 14, 2) (List.mem_of_getElem? (i := 68) rfl)).1
theorem ft_m5 {h : XH} (F : xFix h) : xtg h (-5) = 103 := (F.1 ((-5), 103, 4) (List.mem_of_getElem? (i := 69) rfl)).1
theorem fl_m5 {h : XH} (F : xFix h) : xln h (-5) = 4 := (F.1 ((-5), 103, 4) (List.mem_of_getElem? (i := 69) rfl)).2
theorem ft_m4 {h : XH} (F : xFix h) : xtg h (-4) = 14 := (F.1 ((-4), 14, 2) (List.mem_of_getElem? (i := 70) rfl)).1
theorem ft_m3 {h : XH} (F : xFix h) : xtg h (-3) = 103 := (F.1 ((-3), 103, 3) (List.mem_of_getElem? (i := 71) rfl)).1
theorem fl_m3 {h : XH} (F : xFix h) : xln h (-3) = 3 := (F.1 ((-3), 103, 3) (List.mem_of_getElem? (i := 71) rfl)).2
theorem ft_m2 {h : XH} (F : xFix h) : xtg h (-2) = 14 := (F.1 ((-2), 14, 2) (List.mem_of_getElem? (i := 72) rfl)).1
theorem ft_0 {h : XH} (F : xFix h) : xtg h 0 = 0 := (F.1 (0, 0, 7) (List.mem_of_getElem? (i := 73) rfl)).1
theorem ft_1 {h : XH} (F : xFix h) : xtg h 1 = 8 := (F.1 (1, 8, 7) (List.mem_of_getElem? (i := 74) rfl)).1
theorem ft_2 {h : XH} (F : xFix h) : xtg h 2 = 100 := (F.1 (2, 100, 400) (List.mem_of_getElem? (i := 75) rfl)).1
theorem fl_2 {h : XH} (F : xFix h) : xln h 2 = 400 := (F.1 (2, 100, 400) (List.mem_of_getElem? (i := 75) rfl)).2
theorem ft_3 {h : XH} (F : xFix h) : xtg h 3 = 101 := (F.1 (3, 101, 200) (List.mem_of_getElem? (i := 76) rfl)).1
theorem fl_3 {h : XH} (F : xFix h) : xln h 3 = 200 := (F.1 (3, 101, 200) (List.mem_of_getElem? (i := 76) rfl)).2
theorem ft_4 {h : XH} (F : xFix h) : xtg h 4 = 100 := (F.1 (4, 100, 12) (List.mem_of_getElem? (i := 77) rfl)).1
theorem fl_4 {h : XH} (F : xFix h) : xln h 4 = 12 := (F.1 (4, 100, 12) (List.mem_of_getElem? (i := 77) rfl)).2
theorem ft_5 {h : XH} (F : xFix h) : xtg h 5 = 7 := (F.1 (5, 7, 6) (List.mem_of_getElem? (i := 78) rfl)).1
theorem ft_6 {h : XH} (F : xFix h) : xtg h 6 = 13 := (F.1 (6, 13, 3) (List.mem_of_getElem? (i := 79) rfl)).1
theorem ft_7 {h : XH} (F : xFix h) : xtg h 7 = 13 := (F.1 (7, 13, 3) (List.mem_of_getElem? (i := 80) rfl)).1
theorem ft_8 {h : XH} (F : xFix h) : xtg h 8 = 100 := (F.1 (8, 100, 60) (List.mem_of_getElem? (i := 81) rfl)).1
theorem fl_8 {h : XH} (F : xFix h) : xln h 8 = 60 := (F.1 (8, 100, 60) (List.mem_of_getElem? (i := 81) rfl)).2
theorem ft_9 {h : XH} (F : xFix h) : xtg h 9 = 9 := (F.1 (9, 9, 6) (List.mem_of_getElem? (i := 82) rfl)).1
theorem ft_10 {h : XH} (F : xFix h) : xtg h 10 = 101 := (F.1 (10, 101, 0) (List.mem_of_getElem? (i := 83) rfl)).1
theorem fl_10 {h : XH} (F : xFix h) : xln h 10 = 0 := (F.1 (10, 101, 0) (List.mem_of_getElem? (i := 83) rfl)).2
theorem ft_11 {h : XH} (F : xFix h) : xtg h 11 = 101 := (F.1 (11, 101, 0) (List.mem_of_getElem? (i := 84) rfl)).1
theorem fl_11 {h : XH} (F : xFix h) : xln h 11 = 0 := (F.1 (11, 101, 0) (List.mem_of_getElem? (i := 84) rfl)).2
theorem ft_12 {h : XH} (F : xFix h) : xtg h 12 = 10 := (F.1 (12, 10, 7) (List.mem_of_getElem? (i := 85) rfl)).1
theorem ft_13 {h : XH} (F : xFix h) : xtg h 13 = 101 := (F.1 (13, 101, 64) (List.mem_of_getElem? (i := 86) rfl)).1
theorem fl_13 {h : XH} (F : xFix h) : xln h 13 = 64 := (F.1 (13, 101, 64) (List.mem_of_getElem? (i := 86) rfl)).2
theorem ft_14 {h : XH} (F : xFix h) : xtg h 14 = 100 := (F.1 (14, 100, 64) (List.mem_of_getElem? (i := 87) rfl)).1
theorem fl_14 {h : XH} (F : xFix h) : xln h 14 = 64 := (F.1 (14, 100, 64) (List.mem_of_getElem? (i := 87) rfl)).2
theorem ft_15 {h : XH} (F : xFix h) : xtg h 15 = 100 := (F.1 (15, 100, 64) (List.mem_of_getElem? (i := 88) rfl)).1
theorem fl_15 {h : XH} (F : xFix h) : xln h 15 = 64 := (F.1 (15, 100, 64) (List.mem_of_getElem? (i := 88) rfl)).2
theorem ft_16 {h : XH} (F : xFix h) : xtg h 16 = 111 := (F.1 (16, 111, 13) (List.mem_of_getElem? (i := 89) rfl)).1
theorem fl_16 {h : XH} (F : xFix h) : xln h 16 = 13 := (F.1 (16, 111, 13) (List.mem_of_getElem? (i := 89) rfl)).2
theorem ft_17 {h : XH} (F : xFix h) : xtg h 17 = 100 := (F.1 (17, 100, 13) (List.mem_of_getElem? (i := 90) rfl)).1
theorem fl_17 {h : XH} (F : xFix h) : xln h 17 = 13 := (F.1 (17, 100, 13) (List.mem_of_getElem? (i := 90) rfl)).2
theorem ft_18 {h : XH} (F : xFix h) : xtg h 18 = 100 := (F.1 (18, 100, 13) (List.mem_of_getElem? (i := 91) rfl)).1
theorem fl_18 {h : XH} (F : xFix h) : xln h 18 = 13 := (F.1 (18, 100, 13) (List.mem_of_getElem? (i := 91) rfl)).2
theorem ft_19 {h : XH} (F : xFix h) : xtg h 19 = 100 := (F.1 (19, 100, 13) (List.mem_of_getElem? (i := 92) rfl)).1
theorem fl_19 {h : XH} (F : xFix h) : xln h 19 = 13 := (F.1 (19, 100, 13) (List.mem_of_getElem? (i := 92) rfl)).2
theorem ft_20 {h : XH} (F : xFix h) : xtg h 20 = 100 := (F.1 (20, 100, 13) (List.mem_of_getElem? (i := 93) rfl)).1
theorem fl_20 {h : XH} (F : xFix h) : xln h 20 = 13 := (F.1 (20, 100, 13) (List.mem_of_getElem? (i := 93) rfl)).2
theorem ft_21 {h : XH} (F : xFix h) : xtg h 21 = 100 := (F.1 (21, 100, 13) (List.mem_of_getElem? (i := 94) rfl)).1
theorem fl_21 {h : XH} (F : xFix h) : xln h 21 = 13 := (F.1 (21, 100, 13) (List.mem_of_getElem? (i := 94) rfl)).2
theorem ft_22 {h : XH} (F : xFix h) : xtg h 22 = 100 := (F.1 (22, 100, 13) (List.mem_of_getElem? (i := 95) rfl)).1
theorem fl_22 {h : XH} (F : xFix h) : xln h 22 = 13 := (F.1 (22, 100, 13) (List.mem_of_getElem? (i := 95) rfl)).2
theorem ft_23 {h : XH} (F : xFix h) : xtg h 23 = 100 := (F.1 (23, 100, 13) (List.mem_of_getElem? (i := 96) rfl)).1
theorem fl_23 {h : XH} (F : xFix h) : xln h 23 = 13 := (F.1 (23, 100, 13) (List.mem_of_getElem? (i := 96) rfl)).2
theorem ft_24 {h : XH} (F : xFix h) : xtg h 24 = 100 := (F.1 (24, 100, 13) (List.mem_of_getElem? (i := 97) rfl)).1
theorem fl_24 {h : XH} (F : xFix h) : xln h 24 = 13 := (F.1 (24, 100, 13) (List.mem_of_getElem? (i := 97) rfl)).2
theorem ft_25 {h : XH} (F : xFix h) : xtg h 25 = 100 := (F.1 (25, 100, 13) (List.mem_of_getElem? (i := 98) rfl)).1
theorem fl_25 {h : XH} (F : xFix h) : xln h 25 = 13 := (F.1 (25, 100, 13) (List.mem_of_getElem? (i := 98) rfl)).2
theorem ft_26 {h : XH} (F : xFix h) : xtg h 26 = 100 := (F.1 (26, 100, 13) (List.mem_of_getElem? (i := 99) rfl)).1
theorem fl_26 {h : XH} (F : xFix h) : xln h 26 = 13 := (F.1 (26, 100, 13) (List.mem_of_getElem? (i := 99) rfl)).2
theorem ft_27 {h : XH} (F : xFix h) : xtg h 27 = 100 := (F.1 (27, 100, 13) (List.mem_of_getElem? (i := 100) rfl)).1
theorem fl_27 {h : XH} (F : xFix h) : xln h 27 = 13 := (F.1 (27, 100, 13) (List.mem_of_getElem? (i := 100) rfl)).2
theorem ft_28 {h : XH} (F : xFix h) : xtg h 28 = 100 := (F.1 (28, 100, 13) (List.mem_of_getElem? (i := 101) rfl)).1
theorem fl_28 {h : XH} (F : xFix h) : xln h 28 = 13 := (F.1 (28, 100, 13) (List.mem_of_getElem? (i := 101) rfl)).2
theorem ft_29 {h : XH} (F : xFix h) : xtg h 29 = 100 := (F.1 (29, 100, 13) (List.mem_of_getElem? (i := 102) rfl)).1
theorem fl_29 {h : XH} (F : xFix h) : xln h 29 = 13 := (F.1 (29, 100, 13) (List.mem_of_getElem? (i := 102) rfl)).2
theorem ft_30 {h : XH} (F : xFix h) : xtg h 30 = 100 := (F.1 (30, 100, 12) (List.mem_of_getElem? (i := 103) rfl)).1
theorem fl_30 {h : XH} (F : xFix h) : xln h 30 = 12 := (F.1 (30, 100, 12) (List.mem_of_getElem? (i := 103) rfl)).2
theorem ft_31 {h : XH} (F : xFix h) : xtg h 31 = 100 := (F.1 (31, 100, 12) (List.mem_of_getElem? (i := 104) rfl)).1
theorem fl_31 {h : XH} (F : xFix h) : xln h 31 = 12 := (F.1 (31, 100, 12) (List.mem_of_getElem? (i := 104) rfl)).2
theorem ft_32 {h : XH} (F : xFix h) : xtg h 32 = 6 := (F.1 (32, 6, 15) (List.mem_of_getElem? (i := 105) rfl)).1
theorem ft_33 {h : XH} (F : xFix h) : xtg h 33 = 101 := (F.1 (33, 101, 40) (List.mem_of_getElem? (i := 106) rfl)).1
theorem fl_33 {h : XH} (F : xFix h) : xln h 33 = 40 := (F.1 (33, 101, 40) (List.mem_of_getElem? (i := 106) rfl)).2
theorem ft_34 {h : XH} (F : xFix h) : xtg h 34 = 13 := (F.1 (34, 13, 3) (List.mem_of_getElem? (i := 107) rfl)).1
theorem ft_35 {h : XH} (F : xFix h) : xtg h 35 = 4 := (F.1 (35, 4, 13) (List.mem_of_getElem? (i := 108) rfl)).1
theorem ft_36 {h : XH} (F : xFix h) : xtg h 36 = 101 := (F.1 (36, 101, 0) (List.mem_of_getElem? (i := 109) rfl)).1
theorem fl_36 {h : XH} (F : xFix h) : xln h 36 = 0 := (F.1 (36, 101, 0) (List.mem_of_getElem? (i := 109) rfl)).2
theorem ft_37 {h : XH} (F : xFix h) : xtg h 37 = 5 := (F.1 (37, 5, 5) (List.mem_of_getElem? (i := 110) rfl)).1
theorem ft_38 {h : XH} (F : xFix h) : xtg h 38 = 13 := (F.1 (38, 13, 3) (List.mem_of_getElem? (i := 111) rfl)).1
theorem ft_39 {h : XH} (F : xFix h) : xtg h 39 = 13 := (F.1 (39, 13, 3) (List.mem_of_getElem? (i := 112) rfl)).1
theorem ft_40 {h : XH} (F : xFix h) : xtg h 40 = 1 := (F.1 (40, 1, 6) (List.mem_of_getElem? (i := 113) rfl)).1
theorem ft_41 {h : XH} (F : xFix h) : xtg h 41 = 2 := (F.1 (41, 2, 4) (List.mem_of_getElem? (i := 114) rfl)).1
theorem ft_42 {h : XH} (F : xFix h) : xtg h 42 = 100 := (F.1 (42, 100, 4800) (List.mem_of_getElem? (i := 115) rfl)).1
theorem fl_42 {h : XH} (F : xFix h) : xln h 42 = 4800 := (F.1 (42, 100, 4800) (List.mem_of_getElem? (i := 115) rfl)).2
theorem ft_43 {h : XH} (F : xFix h) : xtg h 43 = 100 := (F.1 (43, 100, 4800) (List.mem_of_getElem? (i := 116) rfl)).1
theorem fl_43 {h : XH} (F : xFix h) : xln h 43 = 4800 := (F.1 (43, 100, 4800) (List.mem_of_getElem? (i := 116) rfl)).2
theorem ft_44 {h : XH} (F : xFix h) : xtg h 44 = 100 := (F.1 (44, 100, 2) (List.mem_of_getElem? (i := 117) rfl)).1
theorem fl_44 {h : XH} (F : xFix h) : xln h 44 = 2 := (F.1 (44, 100, 2) (List.mem_of_getElem? (i := 117) rfl)).2
theorem ft_45 {h : XH} (F : xFix h) : xtg h 45 = 3 := (F.1 (45, 3, 6) (List.mem_of_getElem? (i := 118) rfl)).1
theorem ft_46 {h : XH} (F : xFix h) : xtg h 46 = 101 := (F.1 (46, 101, 40) (List.mem_of_getElem? (i := 119) rfl)).1
theorem fl_46 {h : XH} (F : xFix h) : xln h 46 = 40 := (F.1 (46, 101, 40) (List.mem_of_getElem? (i := 119) rfl)).2
theorem ft_47 {h : XH} (F : xFix h) : xtg h 47 = 100 := (F.1 (47, 100, 40) (List.mem_of_getElem? (i := 120) rfl)).1
theorem fl_47 {h : XH} (F : xFix h) : xln h 47 = 40 := (F.1 (47, 100, 40) (List.mem_of_getElem? (i := 120) rfl)).2
theorem ft_48 {h : XH} (F : xFix h) : xtg h 48 = 102 := (F.1 (48, 102, 2400) (List.mem_of_getElem? (i := 121) rfl)).1
theorem fl_48 {h : XH} (F : xFix h) : xln h 48 = 2400 := (F.1 (48, 102, 2400) (List.mem_of_getElem? (i := 121) rfl)).2
theorem ft_49 {h : XH} (F : xFix h) : xtg h 49 = 100 := (F.1 (49, 100, 2400) (List.mem_of_getElem? (i := 122) rfl)).1
theorem fl_49 {h : XH} (F : xFix h) : xln h 49 = 2400 := (F.1 (49, 100, 2400) (List.mem_of_getElem? (i := 122) rfl)).2
theorem ft_50 {h : XH} (F : xFix h) : xtg h 50 = 100 := (F.1 (50, 100, 60) (List.mem_of_getElem? (i := 123) rfl)).1
theorem fl_50 {h : XH} (F : xFix h) : xln h 50 = 60 := (F.1 (50, 100, 60) (List.mem_of_getElem? (i := 123) rfl)).2
theorem ft_51 {h : XH} (F : xFix h) : xtg h 51 = 100 := (F.1 (51, 100, 60) (List.mem_of_getElem? (i := 124) rfl)).1
theorem fl_51 {h : XH} (F : xFix h) : xln h 51 = 60 := (F.1 (51, 100, 60) (List.mem_of_getElem? (i := 124) rfl)).2
theorem ft_52 {h : XH} (F : xFix h) : xtg h 52 = 13 := (F.1 (52, 13, 3) (List.mem_of_getElem? (i := 125) rfl)).1
theorem ft_53 {h : XH} (F : xFix h) : xtg h 53 = 11 := (F.1 (53, 11, 38) (List.mem_of_getElem? (i := 126) rfl)).1
theorem ft_54 {h : XH} (F : xFix h) : xtg h 54 = 100 := (F.1 (54, 100, 400) (List.mem_of_getElem? (i := 127) rfl)).1
theorem fl_54 {h : XH} (F : xFix h) : xln h 54 = 400 := (F.1 (54, 100, 400) (List.mem_of_getElem? (i := 127) rfl)).2
theorem ft_55 {h : XH} (F : xFix h) : xtg h 55 = 100 := (F.1 (55, 100, 60) (List.mem_of_getElem? (i := 128) rfl)).1
theorem fl_55 {h : XH} (F : xFix h) : xln h 55 = 60 := (F.1 (55, 100, 60) (List.mem_of_getElem? (i := 128) rfl)).2
theorem ft_56 {h : XH} (F : xFix h) : xtg h 56 = 100 := (F.1 (56, 100, 60) (List.mem_of_getElem? (i := 129) rfl)).1
theorem fl_56 {h : XH} (F : xFix h) : xln h 56 = 60 := (F.1 (56, 100, 60) (List.mem_of_getElem? (i := 129) rfl)).2
theorem ft_57 {h : XH} (F : xFix h) : xtg h 57 = 100 := (F.1 (57, 100, 60) (List.mem_of_getElem? (i := 130) rfl)).1
theorem fl_57 {h : XH} (F : xFix h) : xln h 57 = 60 := (F.1 (57, 100, 60) (List.mem_of_getElem? (i := 130) rfl)).2
theorem ft_58 {h : XH} (F : xFix h) : xtg h 58 = 100 := (F.1 (58, 100, 60) (List.mem_of_getElem? (i := 131) rfl)).1
theorem fl_58 {h : XH} (F : xFix h) : xln h 58 = 60 := (F.1 (58, 100, 60) (List.mem_of_getElem? (i := 131) rfl)).2
theorem ft_59 {h : XH} (F : xFix h) : xtg h 59 = 100 := (F.1 (59, 100, 60) (List.mem_of_getElem? (i := 132) rfl)).1
theorem fl_59 {h : XH} (F : xFix h) : xln h 59 = 60 := (F.1 (59, 100, 60) (List.mem_of_getElem? (i := 132) rfl)).2
theorem ft_60 {h : XH} (F : xFix h) : xtg h 60 = 102 := (F.1 (60, 102, 60) (List.mem_of_getElem? (i := 133) rfl)).1
theorem fl_60 {h : XH} (F : xFix h) : xln h 60 = 60 := (F.1 (60, 102, 60) (List.mem_of_getElem? (i := 133) rfl)).2
theorem ft_61 {h : XH} (F : xFix h) : xtg h 61 = 100 := (F.1 (61, 100, 120) (List.mem_of_getElem? (i := 134) rfl)).1
theorem fl_61 {h : XH} (F : xFix h) : xln h 61 = 120 := (F.1 (61, 100, 120) (List.mem_of_getElem? (i := 134) rfl)).2
theorem ft_62 {h : XH} (F : xFix h) : xtg h 62 = 101 := (F.1 (62, 101, 12000) (List.mem_of_getElem? (i := 135) rfl)).1
theorem fl_62 {h : XH} (F : xFix h) : xln h 62 = 12000 := (F.1 (62, 101, 12000) (List.mem_of_getElem? (i := 135) rfl)).2
theorem ft_63 {h : XH} (F : xFix h) : xtg h 63 = 100 := (F.1 (63, 100, 12) (List.mem_of_getElem? (i := 136) rfl)).1
theorem fl_63 {h : XH} (F : xFix h) : xln h 63 = 12 := (F.1 (63, 100, 12) (List.mem_of_getElem? (i := 136) rfl)).2
theorem ft_64 {h : XH} (F : xFix h) : xtg h 64 = 101 := (F.1 (64, 101, 12000) (List.mem_of_getElem? (i := 137) rfl)).1
theorem fl_64 {h : XH} (F : xFix h) : xln h 64 = 12000 := (F.1 (64, 101, 12000) (List.mem_of_getElem? (i := 137) rfl)).2
theorem ft_65 {h : XH} (F : xFix h) : xtg h 65 = 100 := (F.1 (65, 100, 169) (List.mem_of_getElem? (i := 138) rfl)).1
theorem fl_65 {h : XH} (F : xFix h) : xln h 65 = 169 := (F.1 (65, 100, 169) (List.mem_of_getElem? (i := 138) rfl)).2
theorem ft_66 {h : XH} (F : xFix h) : xtg h 66 = 12 := (F.1 (66, 12, 13) (List.mem_of_getElem? (i := 139) rfl)).1
theorem ft_67 {h : XH} (F : xFix h) : xtg h 67 = 100 := (F.1 (67, 100, 41) (List.mem_of_getElem? (i := 140) rfl)).1
theorem fl_67 {h : XH} (F : xFix h) : xln h 67 = 41 := (F.1 (67, 100, 41) (List.mem_of_getElem? (i := 140) rfl)).2
theorem ft_68 {h : XH} (F : xFix h) : xtg h 68 = 100 := (F.1 (68, 100, 41) (List.mem_of_getElem? (i := 141) rfl)).1
theorem fl_68 {h : XH} (F : xFix h) : xln h 68 = 41 := (F.1 (68, 100, 41) (List.mem_of_getElem? (i := 141) rfl)).2
theorem ft_69 {h : XH} (F : xFix h) : xtg h 69 = 100 := (F.1 (69, 100, 41) (List.mem_of_getElem? (i := 142) rfl)).1
theorem fl_69 {h : XH} (F : xFix h) : xln h 69 = 41 := (F.1 (69, 100, 41) (List.mem_of_getElem? (i := 142) rfl)).2
theorem ft_70 {h : XH} (F : xFix h) : xtg h 70 = 100 := (F.1 (70, 100, 41) (List.mem_of_getElem? (i := 143) rfl)).1
theorem fl_70 {h : XH} (F : xFix h) : xln h 70 = 41 := (F.1 (70, 100, 41) (List.mem_of_getElem? (i := 143) rfl)).2
theorem ft_71 {h : XH} (F : xFix h) : xtg h 71 = 100 := (F.1 (71, 100, 41) (List.mem_of_getElem? (i := 144) rfl)).1
theorem fl_71 {h : XH} (F : xFix h) : xln h 71 = 41 := (F.1 (71, 100, 41) (List.mem_of_getElem? (i := 144) rfl)).2
theorem ft_72 {h : XH} (F : xFix h) : xtg h 72 = 100 := (F.1 (72, 100, 41) (List.mem_of_getElem? (i := 145) rfl)).1
theorem fl_72 {h : XH} (F : xFix h) : xln h 72 = 41 := (F.1 (72, 100, 41) (List.mem_of_getElem? (i := 145) rfl)).2
theorem ft_73 {h : XH} (F : xFix h) : xtg h 73 = 100 := (F.1 (73, 100, 41) (List.mem_of_getElem? (i := 146) rfl)).1
theorem fl_73 {h : XH} (F : xFix h) : xln h 73 = 41 := (F.1 (73, 100, 41) (List.mem_of_getElem? (i := 146) rfl)).2
theorem ft_74 {h : XH} (F : xFix h) : xtg h 74 = 100 := (F.1 (74, 100, 41) (List.mem_of_getElem? (i := 147) rfl)).1
theorem fl_74 {h : XH} (F : xFix h) : xln h 74 = 41 := (F.1 (74, 100, 41) (List.mem_of_getElem? (i := 147) rfl)).2
theorem ft_75 {h : XH} (F : xFix h) : xtg h 75 = 100 := (F.1 (75, 100, 41) (List.mem_of_getElem? (i := 148) rfl)).1
theorem fl_75 {h : XH} (F : xFix h) : xln h 75 = 41 := (F.1 (75, 100, 41) (List.mem_of_getElem? (i := 148) rfl)).2
theorem ft_76 {h : XH} (F : xFix h) : xtg h 76 = 101 := (F.1 (76, 101, 42) (List.mem_of_getElem? (i := 149) rfl)).1
theorem fl_76 {h : XH} (F : xFix h) : xln h 76 = 42 := (F.1 (76, 101, 42) (List.mem_of_getElem? (i := 149) rfl)).2
theorem ft_77 {h : XH} (F : xFix h) : xtg h 77 = 100 := (F.1 (77, 100, 42) (List.mem_of_getElem? (i := 150) rfl)).1
theorem fl_77 {h : XH} (F : xFix h) : xln h 77 = 42 := (F.1 (77, 100, 42) (List.mem_of_getElem? (i := 150) rfl)).2
theorem ft_78 {h : XH} (F : xFix h) : xtg h 78 = 100 := (F.1 (78, 100, 41) (List.mem_of_getElem? (i := 151) rfl)).1
theorem fl_78 {h : XH} (F : xFix h) : xln h 78 = 41 := (F.1 (78, 100, 41) (List.mem_of_getElem? (i := 151) rfl)).2
theorem ft_79 {h : XH} (F : xFix h) : xtg h 79 = 100 := (F.1 (79, 100, 41) (List.mem_of_getElem? (i := 152) rfl)).1
theorem fl_79 {h : XH} (F : xFix h) : xln h 79 = 41 := (F.1 (79, 100, 41) (List.mem_of_getElem? (i := 152) rfl)).2
theorem ft_80 {h : XH} (F : xFix h) : xtg h 80 = 100 := (F.1 (80, 100, 41) (List.mem_of_getElem? (i := 153) rfl)).1
theorem fl_80 {h : XH} (F : xFix h) : xln h 80 = 41 := (F.1 (80, 100, 41) (List.mem_of_getElem? (i := 153) rfl)).2
theorem ft_81 {h : XH} (F : xFix h) : xtg h 81 = 100 := (F.1 (81, 100, 4920) (List.mem_of_getElem? (i := 154) rfl)).1
theorem fl_81 {h : XH} (F : xFix h) : xln h 81 = 4920 := (F.1 (81, 100, 4920) (List.mem_of_getElem? (i := 154) rfl)).2
theorem ft_82 {h : XH} (F : xFix h) : xtg h 82 = 100 := (F.1 (82, 100, 4920) (List.mem_of_getElem? (i := 155) rfl)).1
theorem fl_82 {h : XH} (F : xFix h) : xln h 82 = 4920 := (F.1 (82, 100, 4920) (List.mem_of_getElem? (i := 155) rfl)).2
theorem ft_83 {h : XH} (F : xFix h) : xtg h 83 = 100 := (F.1 (83, 100, 82) (List.mem_of_getElem? (i := 156) rfl)).1
theorem fl_83 {h : XH} (F : xFix h) : xln h 83 = 82 := (F.1 (83, 100, 82) (List.mem_of_getElem? (i := 156) rfl)).2
theorem ft_84 {h : XH} (F : xFix h) : xtg h 84 = 100 := (F.1 (84, 100, 2) (List.mem_of_getElem? (i := 157) rfl)).1
theorem fl_84 {h : XH} (F : xFix h) : xln h 84 = 2 := (F.1 (84, 100, 2) (List.mem_of_getElem? (i := 157) rfl)).2
theorem ft_85 {h : XH} (F : xFix h) : xtg h 85 = 102 := (F.1 (85, 102, 41) (List.mem_of_getElem? (i := 158) rfl)).1
theorem fl_85 {h : XH} (F : xFix h) : xln h 85 = 41 := (F.1 (85, 102, 41) (List.mem_of_getElem? (i := 158) rfl)).2
theorem ft_86 {h : XH} (F : xFix h) : xtg h 86 = 100 := (F.1 (86, 100, 41) (List.mem_of_getElem? (i := 159) rfl)).1
theorem fl_86 {h : XH} (F : xFix h) : xln h 86 = 41 := (F.1 (86, 100, 41) (List.mem_of_getElem? (i := 159) rfl)).2
theorem ft_87 {h : XH} (F : xFix h) : xtg h 87 = 100 := (F.1 (87, 100, 40) (List.mem_of_getElem? (i := 160) rfl)).1
theorem fl_87 {h : XH} (F : xFix h) : xln h 87 = 40 := (F.1 (87, 100, 40) (List.mem_of_getElem? (i := 160) rfl)).2
theorem ft_88 {h : XH} (F : xFix h) : xtg h 88 = 100 := (F.1 (88, 100, 40) (List.mem_of_getElem? (i := 161) rfl)).1
theorem fl_88 {h : XH} (F : xFix h) : xln h 88 = 40 := (F.1 (88, 100, 40) (List.mem_of_getElem? (i := 161) rfl)).2
theorem ft_89 {h : XH} (F : xFix h) : xtg h 89 = 100 := (F.1 (89, 100, 60) (List.mem_of_getElem? (i := 162) rfl)).1
theorem fl_89 {h : XH} (F : xFix h) : xln h 89 = 60 := (F.1 (89, 100, 60) (List.mem_of_getElem? (i := 162) rfl)).2
theorem ft_90 {h : XH} (F : xFix h) : xtg h 90 = 100 := (F.1 (90, 100, 60) (List.mem_of_getElem? (i := 163) rfl)).1
theorem fl_90 {h : XH} (F : xFix h) : xln h 90 = 60 := (F.1 (90, 100, 60) (List.mem_of_getElem? (i := 163) rfl)).2
theorem ft_91 {h : XH} (F : xFix h) : xtg h 91 = 101 := (F.1 (91, 101, 1) (List.mem_of_getElem? (i := 164) rfl)).1
theorem fl_91 {h : XH} (F : xFix h) : xln h 91 = 1 := (F.1 (91, 101, 1) (List.mem_of_getElem? (i := 164) rfl)).2
theorem ft_92 {h : XH} (F : xFix h) : xtg h 92 = 105 := (F.1 (92, 105, 1) (List.mem_of_getElem? (i := 165) rfl)).1
theorem fl_92 {h : XH} (F : xFix h) : xln h 92 = 1 := (F.1 (92, 105, 1) (List.mem_of_getElem? (i := 165) rfl)).2
theorem fp_m104_0 {h : XH} (F : xFix h) : xpl h (-104) 0 = (-66) := F.2.1 ((-104), 0, (-66)) (List.mem_of_getElem? (i := 0) rfl)
theorem fp_m104_1 {h : XH} (F : xFix h) : xpl h (-104) 1 = (-68) := F.2.1 ((-104), 1, (-68)) (List.mem_of_getElem? (i := 1) rfl)
theorem fp_m104_2 {h : XH} (F : xFix h) : xpl h (-104) 2 = (-70) := F.2.1 ((-104), 2, (-70)) (List.mem_of_getElem? (i := 2) rfl)
theorem fp_m104_3 {h : XH} (F : xFix h) : xpl h (-104) 3 = (-72) := F.2.1 ((-104), 3, (-72)) (List.mem_of_getElem? (i := 3) rfl)
theorem fp_m104_4 {h : XH} (F : xFix h) : xpl h (-104) 4 = (-74) := F.2.1 ((-104), 4, (-74)) (List.mem_of_getElem? (i := 4) rfl)
theorem fp_m104_5 {h : XH} (F : xFix h) : xpl h (-104) 5 = (-76) := F.2.1 ((-104), 5, (-76)) (List.mem_of_getElem? (i := 5) rfl)
theorem fp_m104_6 {h : XH} (F : xFix h) : xpl h (-104) 6 = (-78) := F.2.1 ((-104), 6, (-78)) (List.mem_of_getElem? (i := 6) rfl)
theorem fp_m104_7 {h : XH} (F : xFix h) : xpl h (-104) 7 = (-80) := F.2.1 ((-104), 7, (-80)) (List.mem_of_getElem? (i := 7) rfl)
theorem fp_m102_0 {h : XH} (F : xFix h) : xpl h (-102) 0 = 1 := F.2.1 ((-102), 0, 1) (List.mem_of_getElem? (i := 8) rfl)
theorem fp_m102_1 {h : XH} (F : xFix h) : xpl h (-102) 1 = 37 := F.2.1 ((-102), 1, 37) (List.mem_of_getElem? (i := 9) rfl)
theorem fp_m102_2 {h : XH} (F : xFix h) : xpl h (-102) 2 = 1369 := F.2.1 ((-102), 2, 1369) (List.mem_of_getElem? (i := 10) rfl)
theorem fp_m102_3 {h : XH} (F : xFix h) : xpl h (-102) 3 = 50653 := F.2.1 ((-102), 3, 50653) (List.mem_of_getElem? (i := 11) rfl)
theorem fp_m102_4 {h : XH} (F : xFix h) : xpl h (-102) 4 = 1874161 := F.2.1 ((-102), 4, 1874161) (List.mem_of_getElem? (i := 12) rfl)
theorem fp_m102_5 {h : XH} (F : xFix h) : xpl h (-102) 5 = 69343957 := F.2.1 ((-102), 5, 69343957) (List.mem_of_getElem? (i := 13) rfl)
theorem fp_m102_6 {h : XH} (F : xFix h) : xpl h (-102) 6 = 2565726409 := F.2.1 ((-102), 6, 2565726409) (List.mem_of_getElem? (i := 14) rfl)
theorem fp_m102_7 {h : XH} (F : xFix h) : xpl h (-102) 7 = 94931877133 := F.2.1 ((-102), 7, 94931877133) (List.mem_of_getElem? (i := 15) rfl)
theorem fp_m102_8 {h : XH} (F : xFix h) : xpl h (-102) 8 = 3512479453921 := F.2.1 ((-102), 8, 3512479453921) (List.mem_of_getElem? (i := 16) rfl)
theorem fp_m102_9 {h : XH} (F : xFix h) : xpl h (-102) 9 = 129961739795077 := F.2.1 ((-102), 9, 129961739795077) (List.mem_of_getElem? (i := 17) rfl)
theorem fp_m102_10 {h : XH} (F : xFix h) : xpl h (-102) 10 = 4808584372417849 := F.2.1 ((-102), 10, 4808584372417849) (List.mem_of_getElem? (i := 18) rfl)
theorem fp_m102_11 {h : XH} (F : xFix h) : xpl h (-102) 11 = 177917621779460413 := F.2.1 ((-102), 11, 177917621779460413) (List.mem_of_getElem? (i := 19) rfl)
theorem fp_m102_12 {h : XH} (F : xFix h) : xpl h (-102) 12 = 6582952005840035281 := F.2.1 ((-102), 12, 6582952005840035281) (List.mem_of_getElem? (i := 20) rfl)
theorem fp_m81_0 {h : XH} (F : xFix h) : xpl h (-81) 0 = 105 := F.2.1 ((-81), 0, 105) (List.mem_of_getElem? (i := 21) rfl)
theorem fp_m81_1 {h : XH} (F : xFix h) : xpl h (-81) 1 = 110 := F.2.1 ((-81), 1, 110) (List.mem_of_getElem? (i := 22) rfl)
theorem fp_m80_0 {h : XH} (F : xFix h) : xpl h (-80) 0 = (-81) := F.2.1 ((-80), 0, (-81)) (List.mem_of_getElem? (i := 23) rfl)
theorem fp_m80_1 {h : XH} (F : xFix h) : xpl h (-80) 1 = 0 := F.2.1 ((-80), 1, 0) (List.mem_of_getElem? (i := 24) rfl)
theorem fp_m79_0 {h : XH} (F : xFix h) : xpl h (-79) 0 = 116 := F.2.1 ((-79), 0, 116) (List.mem_of_getElem? (i := 25) rfl)
theorem fp_m79_1 {h : XH} (F : xFix h) : xpl h (-79) 1 = 111 := F.2.1 ((-79), 1, 111) (List.mem_of_getElem? (i := 26) rfl)
theorem fp_m78_0 {h : XH} (F : xFix h) : xpl h (-78) 0 = (-79) := F.2.1 ((-78), 0, (-79)) (List.mem_of_getElem? (i := 27) rfl)
theorem fp_m78_1 {h : XH} (F : xFix h) : xpl h (-78) 1 = 0 := F.2.1 ((-78), 1, 0) (List.mem_of_getElem? (i := 28) rfl)
theorem fp_m77_0 {h : XH} (F : xFix h) : xpl h (-77) 0 = 111 := F.2.1 ((-77), 0, 111) (List.mem_of_getElem? (i := 29) rfl)
theorem fp_m77_1 {h : XH} (F : xFix h) : xpl h (-77) 1 = 114 := F.2.1 ((-77), 1, 114) (List.mem_of_getElem? (i := 30) rfl)
theorem fp_m76_0 {h : XH} (F : xFix h) : xpl h (-76) 0 = (-77) := F.2.1 ((-76), 0, (-77)) (List.mem_of_getElem? (i := 31) rfl)
theorem fp_m76_1 {h : XH} (F : xFix h) : xpl h (-76) 1 = 0 := F.2.1 ((-76), 1, 0) (List.mem_of_getElem? (i := 32) rfl)
theorem fp_m75_0 {h : XH} (F : xFix h) : xpl h (-75) 0 = 97 := F.2.1 ((-75), 0, 97) (List.mem_of_getElem? (i := 33) rfl)
theorem fp_m75_1 {h : XH} (F : xFix h) : xpl h (-75) 1 = 110 := F.2.1 ((-75), 1, 110) (List.mem_of_getElem? (i := 34) rfl)
theorem fp_m75_2 {h : XH} (F : xFix h) : xpl h (-75) 2 = 100 := F.2.1 ((-75), 2, 100) (List.mem_of_getElem? (i := 35) rfl)
theorem fp_m74_0 {h : XH} (F : xFix h) : xpl h (-74) 0 = (-75) := F.2.1 ((-74), 0, (-75)) (List.mem_of_getElem? (i := 36) rfl)
theorem fp_m74_1 {h : XH} (F : xFix h) : xpl h (-74) 1 = 0 := F.2.1 ((-74), 1, 0) (List.mem_of_getElem? (i := 37) rfl)
theorem fp_m73_0 {h : XH} (F : xFix h) : xpl h (-73) 0 = 111 := F.2.1 ((-73), 0, 111) (List.mem_of_getElem? (i := 38) rfl)
theorem fp_m73_1 {h : XH} (F : xFix h) : xpl h (-73) 1 = 102 := F.2.1 ((-73), 1, 102) (List.mem_of_getElem? (i := 39) rfl)
theorem fp_m72_0 {h : XH} (F : xFix h) : xpl h (-72) 0 = (-73) := F.2.1 ((-72), 0, (-73)) (List.mem_of_getElem? (i := 40) rfl)
theorem fp_m72_1 {h : XH} (F : xFix h) : xpl h (-72) 1 = 0 := F.2.1 ((-72), 1, 0) (List.mem_of_getElem? (i := 41) rfl)
theorem fp_m71_0 {h : XH} (F : xFix h) : xpl h (-71) 0 = 97 := F.2.1 ((-71), 0, 97) (List.mem_of_getElem? (i := 42) rfl)
theorem fp_m71_1 {h : XH} (F : xFix h) : xpl h (-71) 1 = 110 := F.2.1 ((-71), 1, 110) (List.mem_of_getElem? (i := 43) rfl)
theorem fp_m70_0 {h : XH} (F : xFix h) : xpl h (-70) 0 = (-71) := F.2.1 ((-70), 0, (-71)) (List.mem_of_getElem? (i := 44) rfl)
theorem fp_m70_1 {h : XH} (F : xFix h) : xpl h (-70) 1 = 0 := F.2.1 ((-70), 1, 0) (List.mem_of_getElem? (i := 45) rfl)
theorem fp_m69_0 {h : XH} (F : xFix h) : xpl h (-69) 0 = 97 := F.2.1 ((-69), 0, 97) (List.mem_of_getElem? (i := 46) rfl)
theorem fp_m68_0 {h : XH} (F : xFix h) : xpl h (-68) 0 = (-69) := F.2.1 ((-68), 0, (-69)) (List.mem_of_getElem? (i := 47) rfl)
theorem fp_m68_1 {h : XH} (F : xFix h) : xpl h (-68) 1 = 0 := F.2.1 ((-68), 1, 0) (List.mem_of_getElem? (i := 48) rfl)
theorem fp_m67_0 {h : XH} (F : xFix h) : xpl h (-67) 0 = 116 := F.2.1 ((-67), 0, 116) (List.mem_of_getElem? (i := 49) rfl)
theorem fp_m67_1 {h : XH} (F : xFix h) : xpl h (-67) 1 = 104 := F.2.1 ((-67), 1, 104) (List.mem_of_getElem? (i := 50) rfl)
theorem fp_m67_2 {h : XH} (F : xFix h) : xpl h (-67) 2 = 101 := F.2.1 ((-67), 2, 101) (List.mem_of_getElem? (i := 51) rfl)
theorem fp_m66_0 {h : XH} (F : xFix h) : xpl h (-66) 0 = (-67) := F.2.1 ((-66), 0, (-67)) (List.mem_of_getElem? (i := 52) rfl)
theorem fp_m66_1 {h : XH} (F : xFix h) : xpl h (-66) 1 = 0 := F.2.1 ((-66), 1, 0) (List.mem_of_getElem? (i := 53) rfl)
theorem fp_m65_0 {h : XH} (F : xFix h) : xpl h (-65) 0 = 98 := F.2.1 ((-65), 0, 98) (List.mem_of_getElem? (i := 54) rfl)
theorem fp_m65_1 {h : XH} (F : xFix h) : xpl h (-65) 1 = 111 := F.2.1 ((-65), 1, 111) (List.mem_of_getElem? (i := 55) rfl)
theorem fp_m65_2 {h : XH} (F : xFix h) : xpl h (-65) 2 = 100 := F.2.1 ((-65), 2, 100) (List.mem_of_getElem? (i := 56) rfl)
theorem fp_m65_3 {h : XH} (F : xFix h) : xpl h (-65) 3 = 121 := F.2.1 ((-65), 3, 121) (List.mem_of_getElem? (i := 57) rfl)
theorem fp_m64_0 {h : XH} (F : xFix h) : xpl h (-64) 0 = (-65) := F.2.1 ((-64), 0, (-65)) (List.mem_of_getElem? (i := 58) rfl)
theorem fp_m64_1 {h : XH} (F : xFix h) : xpl h (-64) 1 = 0 := F.2.1 ((-64), 1, 0) (List.mem_of_getElem? (i := 59) rfl)
theorem fp_m63_0 {h : XH} (F : xFix h) : xpl h (-63) 0 = 116 := F.2.1 ((-63), 0, 116) (List.mem_of_getElem? (i := 60) rfl)
theorem fp_m63_1 {h : XH} (F : xFix h) : xpl h (-63) 1 = 105 := F.2.1 ((-63), 1, 105) (List.mem_of_getElem? (i := 61) rfl)
theorem fp_m63_2 {h : XH} (F : xFix h) : xpl h (-63) 2 = 116 := F.2.1 ((-63), 2, 116) (List.mem_of_getElem? (i := 62) rfl)
theorem fp_m63_3 {h : XH} (F : xFix h) : xpl h (-63) 3 = 108 := F.2.1 ((-63), 3, 108) (List.mem_of_getElem? (i := 63) rfl)
theorem fp_m63_4 {h : XH} (F : xFix h) : xpl h (-63) 4 = 101 := F.2.1 ((-63), 4, 101) (List.mem_of_getElem? (i := 64) rfl)
theorem fp_m62_0 {h : XH} (F : xFix h) : xpl h (-62) 0 = (-63) := F.2.1 ((-62), 0, (-63)) (List.mem_of_getElem? (i := 65) rfl)
theorem fp_m62_1 {h : XH} (F : xFix h) : xpl h (-62) 1 = 0 := F.2.1 ((-62), 1, 0) (List.mem_of_getElem? (i := 66) rfl)
theorem fp_m61_0 {h : XH} (F : xFix h) : xpl h (-61) 0 = 43 := F.2.1 ((-61), 0, 43) (List.mem_of_getElem? (i := 67) rfl)
theorem fp_m61_1 {h : XH} (F : xFix h) : xpl h (-61) 1 = 45 := F.2.1 ((-61), 1, 45) (List.mem_of_getElem? (i := 68) rfl)
theorem fp_m61_2 {h : XH} (F : xFix h) : xpl h (-61) 2 = 34 := F.2.1 ((-61), 2, 34) (List.mem_of_getElem? (i := 69) rfl)
theorem fp_m61_3 {h : XH} (F : xFix h) : xpl h (-61) 3 = 42 := F.2.1 ((-61), 3, 42) (List.mem_of_getElem? (i := 70) rfl)
theorem fp_m61_4 {h : XH} (F : xFix h) : xpl h (-61) 4 = 126 := F.2.1 ((-61), 4, 126) (List.mem_of_getElem? (i := 71) rfl)
theorem fp_m61_5 {h : XH} (F : xFix h) : xpl h (-61) 5 = 94 := F.2.1 ((-61), 5, 94) (List.mem_of_getElem? (i := 72) rfl)
theorem fp_m61_6 {h : XH} (F : xFix h) : xpl h (-61) 6 = 58 := F.2.1 ((-61), 6, 58) (List.mem_of_getElem? (i := 73) rfl)
theorem fp_m61_7 {h : XH} (F : xFix h) : xpl h (-61) 7 = 40 := F.2.1 ((-61), 7, 40) (List.mem_of_getElem? (i := 74) rfl)
theorem fp_m61_8 {h : XH} (F : xFix h) : xpl h (-61) 8 = 41 := F.2.1 ((-61), 8, 41) (List.mem_of_getElem? (i := 75) rfl)
theorem fp_m60_0 {h : XH} (F : xFix h) : xpl h (-60) 0 = (-61) := F.2.1 ((-60), 0, (-61)) (List.mem_of_getElem? (i := 76) rfl)
theorem fp_m60_1 {h : XH} (F : xFix h) : xpl h (-60) 1 = 0 := F.2.1 ((-60), 1, 0) (List.mem_of_getElem? (i := 77) rfl)
theorem fp_m49_0 {h : XH} (F : xFix h) : xpl h (-49) 0 = 101 := F.2.1 ((-49), 0, 101) (List.mem_of_getElem? (i := 78) rfl)
theorem fp_m49_1 {h : XH} (F : xFix h) : xpl h (-49) 1 = 100 := F.2.1 ((-49), 1, 100) (List.mem_of_getElem? (i := 79) rfl)
theorem fp_m48_0 {h : XH} (F : xFix h) : xpl h (-48) 0 = (-49) := F.2.1 ((-48), 0, (-49)) (List.mem_of_getElem? (i := 80) rfl)
theorem fp_m48_1 {h : XH} (F : xFix h) : xpl h (-48) 1 = 0 := F.2.1 ((-48), 1, 0) (List.mem_of_getElem? (i := 81) rfl)
theorem fp_m47_0 {h : XH} (F : xFix h) : xpl h (-47) 0 = 105 := F.2.1 ((-47), 0, 105) (List.mem_of_getElem? (i := 82) rfl)
theorem fp_m47_1 {h : XH} (F : xFix h) : xpl h (-47) 1 = 110 := F.2.1 ((-47), 1, 110) (List.mem_of_getElem? (i := 83) rfl)
theorem fp_m47_2 {h : XH} (F : xFix h) : xpl h (-47) 2 = 103 := F.2.1 ((-47), 2, 103) (List.mem_of_getElem? (i := 84) rfl)
theorem fp_m46_0 {h : XH} (F : xFix h) : xpl h (-46) 0 = (-47) := F.2.1 ((-46), 0, (-47)) (List.mem_of_getElem? (i := 85) rfl)
theorem fp_m46_1 {h : XH} (F : xFix h) : xpl h (-46) 1 = 0 := F.2.1 ((-46), 1, 0) (List.mem_of_getElem? (i := 86) rfl)
theorem fp_m45_0 {h : XH} (F : xFix h) : xpl h (-45) 0 = 117 := F.2.1 ((-45), 0, 117) (List.mem_of_getElem? (i := 87) rfl)
theorem fp_m45_1 {h : XH} (F : xFix h) : xpl h (-45) 1 = 115 := F.2.1 ((-45), 1, 115) (List.mem_of_getElem? (i := 88) rfl)
theorem fp_m44_0 {h : XH} (F : xFix h) : xpl h (-44) 0 = (-45) := F.2.1 ((-44), 0, (-45)) (List.mem_of_getElem? (i := 89) rfl)
theorem fp_m44_1 {h : XH} (F : xFix h) : xpl h (-44) 1 = 0 := F.2.1 ((-44), 1, 0) (List.mem_of_getElem? (i := 90) rfl)
theorem fp_m43_0 {h : XH} (F : xFix h) : xpl h (-43) 0 = 115 := F.2.1 ((-43), 0, 115) (List.mem_of_getElem? (i := 91) rfl)
theorem fp_m43_1 {h : XH} (F : xFix h) : xpl h (-43) 1 = 115 := F.2.1 ((-43), 1, 115) (List.mem_of_getElem? (i := 92) rfl)
theorem fp_m42_0 {h : XH} (F : xFix h) : xpl h (-42) 0 = (-43) := F.2.1 ((-42), 0, (-43)) (List.mem_of_getElem? (i := 93) rfl)
theorem fp_m42_1 {h : XH} (F : xFix h) : xpl h (-42) 1 = 0 := F.2.1 ((-42), 1, 0) (List.mem_of_getElem? (i := 94) rfl)
theorem fp_m41_0 {h : XH} (F : xFix h) : xpl h (-41) 0 = 115 := F.2.1 ((-41), 0, 115) (List.mem_of_getElem? (i := 95) rfl)
theorem fp_m40_0 {h : XH} (F : xFix h) : xpl h (-40) 0 = (-41) := F.2.1 ((-40), 0, (-41)) (List.mem_of_getElem? (i := 96) rfl)
theorem fp_m40_1 {h : XH} (F : xFix h) : xpl h (-40) 1 = 0 := F.2.1 ((-40), 1, 0) (List.mem_of_getElem? (i := 97) rfl)
theorem fp_m39_0 {h : XH} (F : xFix h) : xpl h (-39) 0 = 115 := F.2.1 ((-39), 0, 115) (List.mem_of_getElem? (i := 98) rfl)
theorem fp_m39_1 {h : XH} (F : xFix h) : xpl h (-39) 1 = 115 := F.2.1 ((-39), 1, 115) (List.mem_of_getElem? (i := 99) rfl)
theorem fp_m39_2 {h : XH} (F : xFix h) : xpl h (-39) 2 = 101 := F.2.1 ((-39), 2, 101) (List.mem_of_getElem? (i := 100) rfl)
theorem fp_m39_3 {h : XH} (F : xFix h) : xpl h (-39) 3 = 115 := F.2.1 ((-39), 3, 115) (List.mem_of_getElem? (i := 101) rfl)
theorem fp_m38_0 {h : XH} (F : xFix h) : xpl h (-38) 0 = (-39) := F.2.1 ((-38), 0, (-39)) (List.mem_of_getElem? (i := 102) rfl)
theorem fp_m38_1 {h : XH} (F : xFix h) : xpl h (-38) 1 = 0 := F.2.1 ((-38), 1, 0) (List.mem_of_getElem? (i := 103) rfl)
theorem fp_m37_0 {h : XH} (F : xFix h) : xpl h (-37) 0 = 105 := F.2.1 ((-37), 0, 105) (List.mem_of_getElem? (i := 104) rfl)
theorem fp_m37_1 {h : XH} (F : xFix h) : xpl h (-37) 1 = 101 := F.2.1 ((-37), 1, 101) (List.mem_of_getElem? (i := 105) rfl)
theorem fp_m37_2 {h : XH} (F : xFix h) : xpl h (-37) 2 = 115 := F.2.1 ((-37), 2, 115) (List.mem_of_getElem? (i := 106) rfl)
theorem fp_m36_0 {h : XH} (F : xFix h) : xpl h (-36) 0 = (-37) := F.2.1 ((-36), 0, (-37)) (List.mem_of_getElem? (i := 107) rfl)
theorem fp_m36_1 {h : XH} (F : xFix h) : xpl h (-36) 1 = 0 := F.2.1 ((-36), 1, 0) (List.mem_of_getElem? (i := 108) rfl)
theorem fp_m35_0 {h : XH} (F : xFix h) : xpl h (-35) 0 = 98 := F.2.1 ((-35), 0, 98) (List.mem_of_getElem? (i := 109) rfl)
theorem fp_m35_1 {h : XH} (F : xFix h) : xpl h (-35) 1 = 111 := F.2.1 ((-35), 1, 111) (List.mem_of_getElem? (i := 110) rfl)
theorem fp_m35_2 {h : XH} (F : xFix h) : xpl h (-35) 2 = 100 := F.2.1 ((-35), 2, 100) (List.mem_of_getElem? (i := 111) rfl)
theorem fp_m35_3 {h : XH} (F : xFix h) : xpl h (-35) 3 = 121 := F.2.1 ((-35), 3, 121) (List.mem_of_getElem? (i := 112) rfl)
theorem fp_m34_0 {h : XH} (F : xFix h) : xpl h (-34) 0 = (-35) := F.2.1 ((-34), 0, (-35)) (List.mem_of_getElem? (i := 113) rfl)
theorem fp_m34_1 {h : XH} (F : xFix h) : xpl h (-34) 1 = 0 := F.2.1 ((-34), 1, 0) (List.mem_of_getElem? (i := 114) rfl)
theorem fp_m33_0 {h : XH} (F : xFix h) : xpl h (-33) 0 = 116 := F.2.1 ((-33), 0, 116) (List.mem_of_getElem? (i := 115) rfl)
theorem fp_m33_1 {h : XH} (F : xFix h) : xpl h (-33) 1 = 105 := F.2.1 ((-33), 1, 105) (List.mem_of_getElem? (i := 116) rfl)
theorem fp_m33_2 {h : XH} (F : xFix h) : xpl h (-33) 2 = 116 := F.2.1 ((-33), 2, 116) (List.mem_of_getElem? (i := 117) rfl)
theorem fp_m33_3 {h : XH} (F : xFix h) : xpl h (-33) 3 = 108 := F.2.1 ((-33), 3, 108) (List.mem_of_getElem? (i := 118) rfl)
theorem fp_m33_4 {h : XH} (F : xFix h) : xpl h (-33) 4 = 101 := F.2.1 ((-33), 4, 101) (List.mem_of_getElem? (i := 119) rfl)
theorem fp_m32_0 {h : XH} (F : xFix h) : xpl h (-32) 0 = (-33) := F.2.1 ((-32), 0, (-33)) (List.mem_of_getElem? (i := 120) rfl)
theorem fp_m32_1 {h : XH} (F : xFix h) : xpl h (-32) 1 = 0 := F.2.1 ((-32), 1, 0) (List.mem_of_getElem? (i := 121) rfl)
theorem fp_m31_0 {h : XH} (F : xFix h) : xpl h (-31) 0 = 105 := F.2.1 ((-31), 0, 105) (List.mem_of_getElem? (i := 122) rfl)
theorem fp_m31_1 {h : XH} (F : xFix h) : xpl h (-31) 1 = 110 := F.2.1 ((-31), 1, 110) (List.mem_of_getElem? (i := 123) rfl)
theorem fp_m30_0 {h : XH} (F : xFix h) : xpl h (-30) 0 = (-31) := F.2.1 ((-30), 0, (-31)) (List.mem_of_getElem? (i := 124) rfl)
theorem fp_m30_1 {h : XH} (F : xFix h) : xpl h (-30) 1 = 0 := F.2.1 ((-30), 1, 0) (List.mem_of_getElem? (i := 125) rfl)
theorem fp_m29_0 {h : XH} (F : xFix h) : xpl h (-29) 0 = 116 := F.2.1 ((-29), 0, 116) (List.mem_of_getElem? (i := 126) rfl)
theorem fp_m29_1 {h : XH} (F : xFix h) : xpl h (-29) 1 = 111 := F.2.1 ((-29), 1, 111) (List.mem_of_getElem? (i := 127) rfl)
theorem fp_m28_0 {h : XH} (F : xFix h) : xpl h (-28) 0 = (-29) := F.2.1 ((-28), 0, (-29)) (List.mem_of_getElem? (i := 128) rfl)
theorem fp_m28_1 {h : XH} (F : xFix h) : xpl h (-28) 1 = 0 := F.2.1 ((-28), 1, 0) (List.mem_of_getElem? (i := 129) rfl)
theorem fp_m27_0 {h : XH} (F : xFix h) : xpl h (-27) 0 = 111 := F.2.1 ((-27), 0, 111) (List.mem_of_getElem? (i := 130) rfl)
theorem fp_m27_1 {h : XH} (F : xFix h) : xpl h (-27) 1 = 114 := F.2.1 ((-27), 1, 114) (List.mem_of_getElem? (i := 131) rfl)
theorem fp_m26_0 {h : XH} (F : xFix h) : xpl h (-26) 0 = (-27) := F.2.1 ((-26), 0, (-27)) (List.mem_of_getElem? (i := 132) rfl)
theorem fp_m26_1 {h : XH} (F : xFix h) : xpl h (-26) 1 = 0 := F.2.1 ((-26), 1, 0) (List.mem_of_getElem? (i := 133) rfl)
theorem fp_m25_0 {h : XH} (F : xFix h) : xpl h (-25) 0 = 97 := F.2.1 ((-25), 0, 97) (List.mem_of_getElem? (i := 134) rfl)
theorem fp_m25_1 {h : XH} (F : xFix h) : xpl h (-25) 1 = 110 := F.2.1 ((-25), 1, 110) (List.mem_of_getElem? (i := 135) rfl)
theorem fp_m25_2 {h : XH} (F : xFix h) : xpl h (-25) 2 = 100 := F.2.1 ((-25), 2, 100) (List.mem_of_getElem? (i := 136) rfl)
theorem fp_m24_0 {h : XH} (F : xFix h) : xpl h (-24) 0 = (-25) := F.2.1 ((-24), 0, (-25)) (List.mem_of_getElem? (i := 137) rfl)
theorem fp_m24_1 {h : XH} (F : xFix h) : xpl h (-24) 1 = 0 := F.2.1 ((-24), 1, 0) (List.mem_of_getElem? (i := 138) rfl)
theorem fp_m23_0 {h : XH} (F : xFix h) : xpl h (-23) 0 = 111 := F.2.1 ((-23), 0, 111) (List.mem_of_getElem? (i := 139) rfl)
theorem fp_m23_1 {h : XH} (F : xFix h) : xpl h (-23) 1 = 102 := F.2.1 ((-23), 1, 102) (List.mem_of_getElem? (i := 140) rfl)
theorem fp_m22_0 {h : XH} (F : xFix h) : xpl h (-22) 0 = (-23) := F.2.1 ((-22), 0, (-23)) (List.mem_of_getElem? (i := 141) rfl)
theorem fp_m22_1 {h : XH} (F : xFix h) : xpl h (-22) 1 = 0 := F.2.1 ((-22), 1, 0) (List.mem_of_getElem? (i := 142) rfl)
theorem fp_m21_0 {h : XH} (F : xFix h) : xpl h (-21) 0 = 97 := F.2.1 ((-21), 0, 97) (List.mem_of_getElem? (i := 143) rfl)
theorem fp_m21_1 {h : XH} (F : xFix h) : xpl h (-21) 1 = 110 := F.2.1 ((-21), 1, 110) (List.mem_of_getElem? (i := 144) rfl)
theorem fp_m20_0 {h : XH} (F : xFix h) : xpl h (-20) 0 = (-21) := F.2.1 ((-20), 0, (-21)) (List.mem_of_getElem? (i := 145) rfl)
theorem fp_m20_1 {h : XH} (F : xFix h) : xpl h (-20) 1 = 0 := F.2.1 ((-20), 1, 0) (List.mem_of_getElem? (i := 146) rfl)
theorem fp_m19_0 {h : XH} (F : xFix h) : xpl h (-19) 0 = 97 := F.2.1 ((-19), 0, 97) (List.mem_of_getElem? (i := 147) rfl)
theorem fp_m18_0 {h : XH} (F : xFix h) : xpl h (-18) 0 = (-19) := F.2.1 ((-18), 0, (-19)) (List.mem_of_getElem? (i := 148) rfl)
theorem fp_m18_1 {h : XH} (F : xFix h) : xpl h (-18) 1 = 0 := F.2.1 ((-18), 1, 0) (List.mem_of_getElem? (i := 149) rfl)
theorem fp_m17_0 {h : XH} (F : xFix h) : xpl h (-17) 0 = 116 := F.2.1 ((-17), 0, 116) (List.mem_of_getElem? (i := 150) rfl)
theorem fp_m17_1 {h : XH} (F : xFix h) : xpl h (-17) 1 = 104 := F.2.1 ((-17), 1, 104) (List.mem_of_getElem? (i := 151) rfl)
theorem fp_m17_2 {h : XH} (F : xFix h) : xpl h (-17) 2 = 101 := F.2.1 ((-17), 2, 101) (List.mem_of_getElem? (i := 152) rfl)
theorem fp_m16_0 {h : XH} (F : xFix h) : xpl h (-16) 0 = (-17) := F.2.1 ((-16), 0, (-17)) (List.mem_of_getElem? (i := 153) rfl)
theorem fp_m16_1 {h : XH} (F : xFix h) : xpl h (-16) 1 = 0 := F.2.1 ((-16), 1, 0) (List.mem_of_getElem? (i := 154) rfl)
theorem fp_m15_0 {h : XH} (F : xFix h) : xpl h (-15) 0 = 101 := F.2.1 ((-15), 0, 101) (List.mem_of_getElem? (i := 155) rfl)
theorem fp_m15_1 {h : XH} (F : xFix h) : xpl h (-15) 1 = 100 := F.2.1 ((-15), 1, 100) (List.mem_of_getElem? (i := 156) rfl)
theorem fp_m14_0 {h : XH} (F : xFix h) : xpl h (-14) 0 = (-15) := F.2.1 ((-14), 0, (-15)) (List.mem_of_getElem? (i := 157) rfl)
theorem fp_m14_1 {h : XH} (F : xFix h) : xpl h (-14) 1 = 0 := F.2.1 ((-14), 1, 0) (List.mem_of_getElem? (i := 158) rfl)
theorem fp_m13_0 {h : XH} (F : xFix h) : xpl h (-13) 0 = 105 := F.2.1 ((-13), 0, 105) (List.mem_of_getElem? (i := 159) rfl)
theorem fp_m13_1 {h : XH} (F : xFix h) : xpl h (-13) 1 = 110 := F.2.1 ((-13), 1, 110) (List.mem_of_getElem? (i := 160) rfl)
theorem fp_m13_2 {h : XH} (F : xFix h) : xpl h (-13) 2 = 103 := F.2.1 ((-13), 2, 103) (List.mem_of_getElem? (i := 161) rfl)
theorem fp_m12_0 {h : XH} (F : xFix h) : xpl h (-12) 0 = (-13) := F.2.1 ((-12), 0, (-13)) (List.mem_of_getElem? (i := 162) rfl)
theorem fp_m12_1 {h : XH} (F : xFix h) : xpl h (-12) 1 = 0 := F.2.1 ((-12), 1, 0) (List.mem_of_getElem? (i := 163) rfl)
theorem fp_m11_0 {h : XH} (F : xFix h) : xpl h (-11) 0 = 117 := F.2.1 ((-11), 0, 117) (List.mem_of_getElem? (i := 164) rfl)
theorem fp_m11_1 {h : XH} (F : xFix h) : xpl h (-11) 1 = 115 := F.2.1 ((-11), 1, 115) (List.mem_of_getElem? (i := 165) rfl)
theorem fp_m10_0 {h : XH} (F : xFix h) : xpl h (-10) 0 = (-11) := F.2.1 ((-10), 0, (-11)) (List.mem_of_getElem? (i := 166) rfl)
theorem fp_m10_1 {h : XH} (F : xFix h) : xpl h (-10) 1 = 0 := F.2.1 ((-10), 1, 0) (List.mem_of_getElem? (i := 167) rfl)
theorem fp_m9_0 {h : XH} (F : xFix h) : xpl h (-9) 0 = 115 := F.2.1 ((-9), 0, 115) (List.mem_of_getElem? (i := 168) rfl)
theorem fp_m9_1 {h : XH} (F : xFix h) : xpl h (-9) 1 = 115 := F.2.1 ((-9), 1, 115) (List.mem_of_getElem? (i := 169) rfl)
theorem fp_m8_0 {h : XH} (F : xFix h) : xpl h (-8) 0 = (-9) := F.2.1 ((-8), 0, (-9)) (List.mem_of_getElem? (i := 170) rfl)
theorem fp_m8_1 {h : XH} (F : xFix h) : xpl h (-8) 1 = 0 := F.2.1 ((-8), 1, 0) (List.mem_of_getElem? (i := 171) rfl)
theorem fp_m7_0 {h : XH} (F : xFix h) : xpl h (-7) 0 = 115 := F.2.1 ((-7), 0, 115) (List.mem_of_getElem? (i := 172) rfl)
theorem fp_m6_0 {h : XH} (F : xFix h) : xpl h (-6) 0 = (-7) := F.2.1 ((-6), 0, (-7)) (List.mem_of_getElem? (i := 173) rfl)
theorem fp_m6_1 {h : XH} (F : xFix h) : xpl h (-6) 1 = 0 := F.2.1 ((-6), 1, 0) (List.mem_of_getElem? (i := 174) rfl)
theorem fp_m5_0 {h : XH} (F : xFix h) : xpl h (-5) 0 = 115 := F.2.1 ((-5), 0, 115) (List.mem_of_getElem? (i := 175) rfl)
theorem fp_m5_1 {h : XH} (F : xFix h) : xpl h (-5) 1 = 115 := F.2.1 ((-5), 1, 115) (List.mem_of_getElem? (i := 176) rfl)
theorem fp_m5_2 {h : XH} (F : xFix h) : xpl h (-5) 2 = 101 := F.2.1 ((-5), 2, 101) (List.mem_of_getElem? (i := 177) rfl)
theorem fp_m5_3 {h : XH} (F : xFix h) : xpl h (-5) 3 = 115 := F.2.1 ((-5), 3, 115) (List.mem_of_getElem? (i := 178) rfl)
theorem fp_m4_0 {h : XH} (F : xFix h) : xpl h (-4) 0 = (-5) := F.2.1 ((-4), 0, (-5)) (List.mem_of_getElem? (i := 179) rfl)
theorem fp_m4_1 {h : XH} (F : xFix h) : xpl h (-4) 1 = 0 := F.2.1 ((-4), 1, 0) (List.mem_of_getElem? (i := 180) rfl)
theorem fp_m3_0 {h : XH} (F : xFix h) : xpl h (-3) 0 = 105 := F.2.1 ((-3), 0, 105) (List.mem_of_getElem? (i := 181) rfl)
theorem fp_m3_1 {h : XH} (F : xFix h) : xpl h (-3) 1 = 101 := F.2.1 ((-3), 1, 101) (List.mem_of_getElem? (i := 182) rfl)
theorem fp_m3_2 {h : XH} (F : xFix h) : xpl h (-3) 2 = 115 := F.2.1 ((-3), 2, 115) (List.mem_of_getElem? (i := 183) rfl)
theorem fp_m2_0 {h : XH} (F : xFix h) : xpl h (-2) 0 = (-3) := F.2.1 ((-2), 0, (-3)) (List.mem_of_getElem? (i := 184) rfl)
theorem fp_m2_1 {h : XH} (F : xFix h) : xpl h (-2) 1 = 0 := F.2.1 ((-2), 1, 0) (List.mem_of_getElem? (i := 185) rfl)
theorem fp_0_0 {h : XH} (F : xFix h) : xpl h 0 0 = 1 := F.2.1 (0, 0, 1) (List.mem_of_getElem? (i := 186) rfl)
theorem fp_0_1 {h : XH} (F : xFix h) : xpl h 0 1 = 5 := F.2.1 (0, 1, 5) (List.mem_of_getElem? (i := 187) rfl)
theorem fp_0_2 {h : XH} (F : xFix h) : xpl h 0 2 = 12 := F.2.1 (0, 2, 12) (List.mem_of_getElem? (i := 188) rfl)
theorem fp_0_3 {h : XH} (F : xFix h) : xpl h 0 3 = 32 := F.2.1 (0, 3, 32) (List.mem_of_getElem? (i := 189) rfl)
theorem fp_0_4 {h : XH} (F : xFix h) : xpl h 0 4 = 40 := F.2.1 (0, 4, 40) (List.mem_of_getElem? (i := 190) rfl)
theorem fp_1_0 {h : XH} (F : xFix h) : xpl h 1 0 = 2 := F.2.1 (1, 0, 2) (List.mem_of_getElem? (i := 191) rfl)
theorem fp_1_1 {h : XH} (F : xFix h) : xpl h 1 1 = 3 := F.2.1 (1, 1, 3) (List.mem_of_getElem? (i := 192) rfl)
theorem fp_1_2 {h : XH} (F : xFix h) : xpl h 1 2 = 4 := F.2.1 (1, 2, 4) (List.mem_of_getElem? (i := 193) rfl)
theorem fp_5_0 {h : XH} (F : xFix h) : xpl h 5 0 = 6 := F.2.1 (5, 0, 6) (List.mem_of_getElem? (i := 194) rfl)
theorem fp_5_1 {h : XH} (F : xFix h) : xpl h 5 1 = 7 := F.2.1 (5, 1, 7) (List.mem_of_getElem? (i := 195) rfl)
theorem fp_5_2 {h : XH} (F : xFix h) : xpl h 5 2 = 8 := F.2.1 (5, 2, 8) (List.mem_of_getElem? (i := 196) rfl)
theorem fp_5_3 {h : XH} (F : xFix h) : xpl h 5 3 = 9 := F.2.1 (5, 3, 9) (List.mem_of_getElem? (i := 197) rfl)
theorem fp_9_0 {h : XH} (F : xFix h) : xpl h 9 0 = 0 := F.2.1 (9, 0, 0) (List.mem_of_getElem? (i := 198) rfl)
theorem fp_9_1 {h : XH} (F : xFix h) : xpl h 9 1 = 0 := F.2.1 (9, 1, 0) (List.mem_of_getElem? (i := 199) rfl)
theorem fp_9_2 {h : XH} (F : xFix h) : xpl h 9 2 = 0 := F.2.1 (9, 2, 0) (List.mem_of_getElem? (i := 200) rfl)
theorem fp_9_3 {h : XH} (F : xFix h) : xpl h 9 3 = 10 := F.2.1 (9, 3, 10) (List.mem_of_getElem? (i := 201) rfl)
theorem fp_9_4 {h : XH} (F : xFix h) : xpl h 9 4 = 11 := F.2.1 (9, 4, 11) (List.mem_of_getElem? (i := 202) rfl)
theorem fp_12_4 {h : XH} (F : xFix h) : xpl h 12 4 = 16 := F.2.1 (12, 4, 16) (List.mem_of_getElem? (i := 203) rfl)
theorem fp_12_5 {h : XH} (F : xFix h) : xpl h 12 5 = 30 := F.2.1 (12, 5, 30) (List.mem_of_getElem? (i := 204) rfl)
theorem fp_12_6 {h : XH} (F : xFix h) : xpl h 12 6 = 31 := F.2.1 (12, 6, 31) (List.mem_of_getElem? (i := 205) rfl)
theorem fp_16_0 {h : XH} (F : xFix h) : xpl h 16 0 = 17 := F.2.1 (16, 0, 17) (List.mem_of_getElem? (i := 206) rfl)
theorem fp_16_1 {h : XH} (F : xFix h) : xpl h 16 1 = 18 := F.2.1 (16, 1, 18) (List.mem_of_getElem? (i := 207) rfl)
theorem fp_16_2 {h : XH} (F : xFix h) : xpl h 16 2 = 19 := F.2.1 (16, 2, 19) (List.mem_of_getElem? (i := 208) rfl)
theorem fp_16_3 {h : XH} (F : xFix h) : xpl h 16 3 = 20 := F.2.1 (16, 3, 20) (List.mem_of_getElem? (i := 209) rfl)
theorem fp_16_4 {h : XH} (F : xFix h) : xpl h 16 4 = 21 := F.2.1 (16, 4, 21) (List.mem_of_getElem? (i := 210) rfl)
theorem fp_16_5 {h : XH} (F : xFix h) : xpl h 16 5 = 22 := F.2.1 (16, 5, 22) (List.mem_of_getElem? (i := 211) rfl)
theorem fp_16_6 {h : XH} (F : xFix h) : xpl h 16 6 = 23 := F.2.1 (16, 6, 23) (List.mem_of_getElem? (i := 212) rfl)
theorem fp_16_7 {h : XH} (F : xFix h) : xpl h 16 7 = 24 := F.2.1 (16, 7, 24) (List.mem_of_getElem? (i := 213) rfl)
theorem fp_16_8 {h : XH} (F : xFix h) : xpl h 16 8 = 25 := F.2.1 (16, 8, 25) (List.mem_of_getElem? (i := 214) rfl)
theorem fp_16_9 {h : XH} (F : xFix h) : xpl h 16 9 = 26 := F.2.1 (16, 9, 26) (List.mem_of_getElem? (i := 215) rfl)
theorem fp_16_10 {h : XH} (F : xFix h) : xpl h 16 10 = 27 := F.2.1 (16, 10, 27) (List.mem_of_getElem? (i := 216) rfl)
theorem fp_16_11 {h : XH} (F : xFix h) : xpl h 16 11 = 28 := F.2.1 (16, 11, 28) (List.mem_of_getElem? (i := 217) rfl)
theorem fp_16_12 {h : XH} (F : xFix h) : xpl h 16 12 = 29 := F.2.1 (16, 12, 29) (List.mem_of_getElem? (i := 218) rfl)
theorem fp_32_0 {h : XH} (F : xFix h) : xpl h 32 0 = 33 := F.2.1 (32, 0, 33) (List.mem_of_getElem? (i := 219) rfl)
theorem fp_32_2 {h : XH} (F : xFix h) : xpl h 32 2 = 34 := F.2.1 (32, 2, 34) (List.mem_of_getElem? (i := 220) rfl)
theorem fp_32_3 {h : XH} (F : xFix h) : xpl h 32 3 = 35 := F.2.1 (32, 3, 35) (List.mem_of_getElem? (i := 221) rfl)
theorem fp_32_4 {h : XH} (F : xFix h) : xpl h 32 4 = 37 := F.2.1 (32, 4, 37) (List.mem_of_getElem? (i := 222) rfl)
theorem fp_35_0 {h : XH} (F : xFix h) : xpl h 35 0 = 0 := F.2.1 (35, 0, 0) (List.mem_of_getElem? (i := 223) rfl)
theorem fp_35_1 {h : XH} (F : xFix h) : xpl h 35 1 = 0 := F.2.1 (35, 1, 0) (List.mem_of_getElem? (i := 224) rfl)
theorem fp_35_2 {h : XH} (F : xFix h) : xpl h 35 2 = 2 := F.2.1 (35, 2, 2) (List.mem_of_getElem? (i := 225) rfl)
theorem fp_35_3 {h : XH} (F : xFix h) : xpl h 35 3 = 0 := F.2.1 (35, 3, 0) (List.mem_of_getElem? (i := 226) rfl)
theorem fp_35_4 {h : XH} (F : xFix h) : xpl h 35 4 = 36 := F.2.1 (35, 4, 36) (List.mem_of_getElem? (i := 227) rfl)
theorem fp_37_0 {h : XH} (F : xFix h) : xpl h 37 0 = 38 := F.2.1 (37, 0, 38) (List.mem_of_getElem? (i := 228) rfl)
theorem fp_40_0 {h : XH} (F : xFix h) : xpl h 40 0 = 41 := F.2.1 (40, 0, 41) (List.mem_of_getElem? (i := 229) rfl)
theorem fp_40_1 {h : XH} (F : xFix h) : xpl h 40 1 = 48 := F.2.1 (40, 1, 48) (List.mem_of_getElem? (i := 230) rfl)
theorem fp_40_2 {h : XH} (F : xFix h) : xpl h 40 2 = 49 := F.2.1 (40, 2, 49) (List.mem_of_getElem? (i := 231) rfl)
theorem fp_40_3 {h : XH} (F : xFix h) : xpl h 40 3 = 50 := F.2.1 (40, 3, 50) (List.mem_of_getElem? (i := 232) rfl)
theorem fp_40_4 {h : XH} (F : xFix h) : xpl h 40 4 = 51 := F.2.1 (40, 4, 51) (List.mem_of_getElem? (i := 233) rfl)
theorem fp_41_0 {h : XH} (F : xFix h) : xpl h 41 0 = 42 := F.2.1 (41, 0, 42) (List.mem_of_getElem? (i := 234) rfl)
theorem fp_41_1 {h : XH} (F : xFix h) : xpl h 41 1 = 43 := F.2.1 (41, 1, 43) (List.mem_of_getElem? (i := 235) rfl)
theorem fp_41_2 {h : XH} (F : xFix h) : xpl h 41 2 = 44 := F.2.1 (41, 2, 44) (List.mem_of_getElem? (i := 236) rfl)
theorem fp_41_3 {h : XH} (F : xFix h) : xpl h 41 3 = 45 := F.2.1 (41, 3, 45) (List.mem_of_getElem? (i := 237) rfl)
theorem fp_45_0 {h : XH} (F : xFix h) : xpl h 45 0 = 46 := F.2.1 (45, 0, 46) (List.mem_of_getElem? (i := 238) rfl)
theorem fp_45_1 {h : XH} (F : xFix h) : xpl h 45 1 = 47 := F.2.1 (45, 1, 47) (List.mem_of_getElem? (i := 239) rfl)
theorem fp_53_1 {h : XH} (F : xFix h) : xpl h 53 1 = 54 := F.2.1 (53, 1, 54) (List.mem_of_getElem? (i := 240) rfl)
theorem fp_53_3 {h : XH} (F : xFix h) : xpl h 53 3 = 55 := F.2.1 (53, 3, 55) (List.mem_of_getElem? (i := 241) rfl)
theorem fp_53_7 {h : XH} (F : xFix h) : xpl h 53 7 = 56 := F.2.1 (53, 7, 56) (List.mem_of_getElem? (i := 242) rfl)
theorem fp_53_8 {h : XH} (F : xFix h) : xpl h 53 8 = 57 := F.2.1 (53, 8, 57) (List.mem_of_getElem? (i := 243) rfl)
theorem fp_53_9 {h : XH} (F : xFix h) : xpl h 53 9 = 58 := F.2.1 (53, 9, 58) (List.mem_of_getElem? (i := 244) rfl)
theorem fp_53_10 {h : XH} (F : xFix h) : xpl h 53 10 = 59 := F.2.1 (53, 10, 59) (List.mem_of_getElem? (i := 245) rfl)
theorem fp_53_11 {h : XH} (F : xFix h) : xpl h 53 11 = 60 := F.2.1 (53, 11, 60) (List.mem_of_getElem? (i := 246) rfl)
theorem fp_53_12 {h : XH} (F : xFix h) : xpl h 53 12 = 61 := F.2.1 (53, 12, 61) (List.mem_of_getElem? (i := 247) rfl)
theorem fp_53_13 {h : XH} (F : xFix h) : xpl h 53 13 = 62 := F.2.1 (53, 13, 62) (List.mem_of_getElem? (i := 248) rfl)
theorem fp_53_15 {h : XH} (F : xFix h) : xpl h 53 15 = 63 := F.2.1 (53, 15, 63) (List.mem_of_getElem? (i := 249) rfl)
theorem fp_53_16 {h : XH} (F : xFix h) : xpl h 53 16 = 64 := F.2.1 (53, 16, 64) (List.mem_of_getElem? (i := 250) rfl)
theorem fp_53_17 {h : XH} (F : xFix h) : xpl h 53 17 = 65 := F.2.1 (53, 17, 65) (List.mem_of_getElem? (i := 251) rfl)
theorem fp_53_21 {h : XH} (F : xFix h) : xpl h 53 21 = 78 := F.2.1 (53, 21, 78) (List.mem_of_getElem? (i := 252) rfl)
theorem fp_53_22 {h : XH} (F : xFix h) : xpl h 53 22 = 79 := F.2.1 (53, 22, 79) (List.mem_of_getElem? (i := 253) rfl)
theorem fp_53_23 {h : XH} (F : xFix h) : xpl h 53 23 = 80 := F.2.1 (53, 23, 80) (List.mem_of_getElem? (i := 254) rfl)
theorem fp_53_27 {h : XH} (F : xFix h) : xpl h 53 27 = 81 := F.2.1 (53, 27, 81) (List.mem_of_getElem? (i := 255) rfl)
theorem fp_53_28 {h : XH} (F : xFix h) : xpl h 53 28 = 82 := F.2.1 (53, 28, 82) (List.mem_of_getElem? (i := 256) rfl)
theorem fp_53_29 {h : XH} (F : xFix h) : xpl h 53 29 = 83 := F.2.1 (53, 29, 83) (List.mem_of_getElem? (i := 257) rfl)
theorem fp_53_30 {h : XH} (F : xFix h) : xpl h 53 30 = 84 := F.2.1 (53, 30, 84) (List.mem_of_getElem? (i := 258) rfl)
theorem fp_53_31 {h : XH} (F : xFix h) : xpl h 53 31 = 85 := F.2.1 (53, 31, 85) (List.mem_of_getElem? (i := 259) rfl)
theorem fp_53_32 {h : XH} (F : xFix h) : xpl h 53 32 = 86 := F.2.1 (53, 32, 86) (List.mem_of_getElem? (i := 260) rfl)
theorem fp_53_33 {h : XH} (F : xFix h) : xpl h 53 33 = 87 := F.2.1 (53, 33, 87) (List.mem_of_getElem? (i := 261) rfl)
theorem fp_53_34 {h : XH} (F : xFix h) : xpl h 53 34 = 88 := F.2.1 (53, 34, 88) (List.mem_of_getElem? (i := 262) rfl)
theorem fp_53_36 {h : XH} (F : xFix h) : xpl h 53 36 = 89 := F.2.1 (53, 36, 89) (List.mem_of_getElem? (i := 263) rfl)
theorem fp_53_37 {h : XH} (F : xFix h) : xpl h 53 37 = 90 := F.2.1 (53, 37, 90) (List.mem_of_getElem? (i := 264) rfl)
theorem fp_66_1 {h : XH} (F : xFix h) : xpl h 66 1 = 67 := F.2.1 (66, 1, 67) (List.mem_of_getElem? (i := 265) rfl)
theorem fp_66_2 {h : XH} (F : xFix h) : xpl h 66 2 = 68 := F.2.1 (66, 2, 68) (List.mem_of_getElem? (i := 266) rfl)
theorem fp_66_3 {h : XH} (F : xFix h) : xpl h 66 3 = 69 := F.2.1 (66, 3, 69) (List.mem_of_getElem? (i := 267) rfl)
theorem fp_66_4 {h : XH} (F : xFix h) : xpl h 66 4 = 70 := F.2.1 (66, 4, 70) (List.mem_of_getElem? (i := 268) rfl)
theorem fp_66_5 {h : XH} (F : xFix h) : xpl h 66 5 = 71 := F.2.1 (66, 5, 71) (List.mem_of_getElem? (i := 269) rfl)
theorem fp_66_6 {h : XH} (F : xFix h) : xpl h 66 6 = 72 := F.2.1 (66, 6, 72) (List.mem_of_getElem? (i := 270) rfl)
theorem fp_66_7 {h : XH} (F : xFix h) : xpl h 66 7 = 73 := F.2.1 (66, 7, 73) (List.mem_of_getElem? (i := 271) rfl)
theorem fp_66_8 {h : XH} (F : xFix h) : xpl h 66 8 = 74 := F.2.1 (66, 8, 74) (List.mem_of_getElem? (i := 272) rfl)
theorem fp_66_9 {h : XH} (F : xFix h) : xpl h 66 9 = 75 := F.2.1 (66, 9, 75) (List.mem_of_getElem? (i := 273) rfl)
theorem fp_66_11 {h : XH} (F : xFix h) : xpl h 66 11 = 76 := F.2.1 (66, 11, 76) (List.mem_of_getElem? (i := 274) rfl)
theorem fp_66_12 {h : XH} (F : xFix h) : xpl h 66 12 = 77 := F.2.1 (66, 12, 77) (List.mem_of_getElem? (i := 275) rfl)
theorem xFix.nx {h : XH} (F : xFix h) : 93 ≤ xnx h := F.2.2
def xfree (a k : Int) : Bool := xfP.all (fun q => !(q.1 == a && q.2.1 == k))
def xfreeA (a : Int) : Bool := xfP.all (fun q => !(q.1 == a))
theorem xFix.st {h : XH} (F : xFix h) {a k v : Int} (hf : ∀ q ∈ xfP, q.1 = a → q.2.1 = k → False) : xFix (xst h a k v) := by
  refine ⟨F.1, fun q hq => ?_, F.2.2⟩
  rw [xpl_st, if_neg (fun e => hf q hq e.1 e.2)]
  exact F.2.1 q hq
theorem xFix.stL {h : XH} (F : xFix h) {a k v : Int} (hf : xfree a k = true) : xFix (xst h a k v) := F.st fun q hq e1 e2 => by
  have := List.all_eq_true.mp hf q hq
  simp [e1, e2] at this
theorem xFix.stA {h : XH} (F : xFix h) {a k v : Int} (hf : xfreeA a = true) : xFix (xst h a k v) := F.st fun q hq e1 e2 => by
  have := List.all_eq_true.mp hf q hq
  simp [e1] at this
theorem xfP_lt : ∀ q ∈ xfP, q.1 < 93 := by decide +kernel
theorem xfT_lt : ∀ q ∈ xfT, q.1 < 93 := by decide +kernel
theorem xFix.stD {h : XH} (F : xFix h) {a k v : Int} (hf : 93 ≤ a) : xFix (xst h a k v) := F.st fun q hq e1 e2 => by
  have := xfP_lt q hq
  omega
theorem xFix.mk {h : XH} (F : xFix h) {t : Nat} {n : Int} {c : Int → Int} : xFix (xmk h t n c) := by
  have hn := F.2.2
  refine ⟨fun q hq => ?_, fun q hq => ?_, by rw [xnx_mk]; omega⟩
  · have := xfT_lt q hq
    rw [xtg_mk, xln_mk, if_neg (by omega), if_neg (by omega)]
    exact F.1 q hq
  · have := xfP_lt q hq
    rw [xpl_mk, if_neg (by omega)]
    exact F.2.1 q hq
theorem xpl_hit (h : XH) (a k v : Int) : xpl (xst h a k v) a k = v := by rw [xpl_st, if_pos ⟨rfl, rfl⟩]
theorem xpl_oa {h : XH} {a k v b j : Int} (e : b ≠ a) : xpl (xst h a k v) b j = xpl h b j := by rw [xpl_st, if_neg (fun z => e z.1)]
theorem xpl_ok {h : XH} {a k v b j : Int} (e : j ≠ k) : xpl (xst h a k v) b j = xpl h b j := by rw [xpl_st, if_neg (fun z => e z.2)]
theorem xpl_new {h : XH} {t : Nat} {n : Int} {c : Int → Int} {b j : Int} (e : b = xnx h) : xpl (xmk h t n c) b j = c j := by rw [xpl_mk, if_pos e]
theorem xpl_old {h : XH} {t : Nat} {n : Int} {c : Int → Int} {b j : Int} (e : b ≠ xnx h) : xpl (xmk h t n c) b j = xpl h b j := by rw [xpl_mk, if_neg e]
theorem xtg_new {h : XH} {t : Nat} {n : Int} {c : Int → Int} {b : Int} (e : b = xnx h) : xtg (xmk h t n c) b = t := by rw [xtg_mk, if_pos e]
theorem xtg_old {h : XH} {t : Nat} {n : Int} {c : Int → Int} {b : Int} (e : b ≠ xnx h) : xtg (xmk h t n c) b = xtg h b := by rw [xtg_mk, if_neg e]
theorem xln_new {h : XH} {t : Nat} {n : Int} {c : Int → Int} {b : Int} (e : b = xnx h) : xln (xmk h t n c) b = n := by rw [xln_mk, if_pos e]
theorem xln_old {h : XH} {t : Nat} {n : Int} {c : Int → Int} {b : Int} (e : b ≠ xnx h) : xln (xmk h t n c) b = xln h b := by rw [xln_mk, if_neg e]
end XFIX
