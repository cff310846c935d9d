/-! THE SHAPE of what the two constructors make (written by wip/whole/mk32.py) -/
def shL : List (Nat × Nat) := [(11, 0), (310, 8), (101, 201), (7, 0), (100, 8), (100, 8), (100, 8), (100, 8), (100, 8), (100, 8), (100, 8), (100, 72), (100, 1616), (100, 2048), (303, 30), (304, 8), (5, 0), (100, 160), (100, 161), (100, 161), (100, 161), (6, 0), (100, 160), (100, 12), (100, 12), (100, 4), (308, 250), (100, 60), (1, 0), (100, 50), (309, 4), (9, 0), (100, 100), (9, 0), (100, 100), (9, 0), (100, 100), (9, 0), (100, 100), (12, 0), (100, 8), (100, 8), (100, 8), (100, 8), (100, 8), (100, 8), (100, 8), (100, 8), (101, 201), (100, 30), (100, 30), (100, 30), (100, 30), (101, 30), (100, 30), (100, 240), (101, 240), (100, 240), (100, 240), (100, 30), (100, 2730), (100, 8), (100, 8), (100, 288), (100, 1440), (100, 250), (100, 250), (100, 250), (100, 250), (100, 250), (100, 250), (100, 250), (100, 160), (100, 4), (100, 4), (100, 400), (100, 50), (100, 39), (100, 180), (101, 80), (100, 8), (100, 8), (100, 1616), (100, 9), (100, 9), (100, 9), (100, 8)]
def ptL : List (Nat × Nat × Nat) := [(0, 92, 93), (19, 80, 81), (23, 80, 82), (24, 80, 83), (25, 80, 84), (30, 85, 86), (32, 85, 87), (33, 85, 88), (39, 67, 68), (40, 67, 69), (42, 67, 70), (43, 67, 71), (44, 67, 72), (45, 67, 73), (46, 67, 74), (47, 67, 75), (48, 67, 76), (49, 67, 77), (59, 95, 96), (59, 97, 98), (59, 99, 100), (59, 101, 102), (68, 64, 65), (70, 64, 66), (72, 64, 67), (73, 64, 78), (75, 64, 79), (77, 64, 80), (78, 64, 89), (80, 64, 90), (82, 64, 91), (83, 64, 92), (84, 64, 94), (87, 103, 104), (88, 103, 105), (89, 103, 106), (90, 103, 107), (91, 103, 108), (92, 103, 109), (93, 103, 110), (94, 103, 111), (95, 103, 112), (98, 103, 113), (99, 103, 114), (100, 103, 115), (101, 103, 116), (102, 103, 117), (103, 103, 118), (104, 103, 119), (105, 103, 120), (106, 103, 121), (107, 103, 122), (108, 103, 123), (109, 103, 124), (112, 103, 125), (113, 103, 126), (114, 103, 127), (115, 103, 128), (117, 103, 129), (118, 103, 130), (119, 103, 131), (120, 103, 132), (121, 103, 133), (122, 103, 134), (123, 103, 135), (124, 103, 136), (128, 103, 137), (129, 103, 138), (130, 103, 139), (132, 103, 140), (140, 103, 141), (142, 103, 142), (143, 103, 143), (148, 103, 144), (149, 103, 145), (150, 103, 146), (151, 103, 147), (152, 103, 148), (153, 103, 149), (154, 103, 150)]
/-- shapes, and where the fields that never change refer to -/
def St (h : Hp) : Prop := (∀ a, 64 ≤ a → a < 151 → hS h a = shL.getD (a - 64) (0, 0)) ∧ (∀ p ∈ ptL, hG h p.1 p.2.1 = some p.2.2) ∧ (∀ i, i < 4 → hQ h 94 i = some (95 + 2 * i)) ∧ 151 ≤ hN h ∧ hS h 1 = (200, 6) ∧ hS h 2 = (200, 6) ∧ hS h 3 = (200, 6) ∧ hS h 4 = (200, 24) ∧ (∀ f, 200 ≤ f → f < 204 → hG h f 0 = some (f - 199)) ∧ (∀ j, 1 ≤ j → j ≤ 4 → ∀ i, hE h j i = (statV.getD (j - 1) []).getD i 0) ∧ (∀ j, j < 9 → hS h (10 + j) = (13, 0) ∧ hG h 160 (10 + j) = some (20 + j) ∧ hF h 161 (10 + j) = 0 ∧ hS h (20 + j) = (202, strLen.getD j 0) ∧ ∀ i, hE h (20 + j) i = (strByt.getD j []).getD i 0) ∧ hF h 204 0 = 1
theorem s_64 {h : Hp} (s : St h) : hS h 64 = (11, 0) := s.1 64 (by decide) (by decide)
theorem s_65 {h : Hp} (s : St h) : hS h 65 = (310, 8) := s.1 65 (by decide) (by decide)
theorem s_66 {h : Hp} (s : St h) : hS h 66 = (101, 201) := s.1 66 (by decide) (by decide)
theorem s_67 {h : Hp} (s : St h) : hS h 67 = (7, 0) := s.1 67 (by decide) (by decide)
theorem s_68 {h : Hp} (s : St h) : hS h 68 = (100, 8) := s.1 68 (by decide) (by decide)
theorem s_69 {h : Hp} (s : St h) : hS h 69 = (100, 8) := s.1 69 (by decide) (by decide)
theorem s_70 {h : Hp} (s : St h) : hS h 70 = (100, 8) := s.1 70 (by decide) (by decide)
theorem s_71 {h : Hp} (s : St h) : hS h 71 = (100, 8) := s.1 71 (by decide) (by decide)
theorem s_72 {h : Hp} (s : St h) : hS h 72 = (100, 8) := s.1 72 (by decide) (by decide)
theorem s_73 {h : Hp} (s : St h) : hS h 73 = (100, 8) := s.1 73 (by decide) (by decide)
theorem s_74 {h : Hp} (s : St h) : hS h 74 = (100, 8) := s.1 74 (by decide) (by decide)
theorem s_75 {h : Hp} (s : St h) : hS h 75 = (100, 72) := s.1 75 (by decide) (by decide)
theorem s_76 {h : Hp} (s : St h) : hS h 76 = (100, 1616) := s.1 76 (by decide) (by decide)
theorem s_77 {h : Hp} (s : St h) : hS h 77 = (100, 2048) := s.1 77 (by decide) (by decide)
theorem s_78 {h : Hp} (s : St h) : hS h 78 = (303, 30) := s.1 78 (by decide) (by decide)
theorem s_79 {h : Hp} (s : St h) : hS h 79 = (304, 8) := s.1 79 (by decide) (by decide)
theorem s_80 {h : Hp} (s : St h) : hS h 80 = (5, 0) := s.1 80 (by decide) (by decide)
theorem s_81 {h : Hp} (s : St h) : hS h 81 = (100, 160) := s.1 81 (by decide) (by decide)
theorem s_82 {h : Hp} (s : St h) : hS h 82 = (100, 161) := s.1 82 (by decide) (by decide)
theorem s_83 {h : Hp} (s : St h) : hS h 83 = (100, 161) := s.1 83 (by decide) (by decide)
theorem s_84 {h : Hp} (s : St h) : hS h 84 = (100, 161) := s.1 84 (by decide) (by decide)
theorem s_85 {h : Hp} (s : St h) : hS h 85 = (6, 0) := s.1 85 (by decide) (by decide)
theorem s_86 {h : Hp} (s : St h) : hS h 86 = (100, 160) := s.1 86 (by decide) (by decide)
theorem s_87 {h : Hp} (s : St h) : hS h 87 = (100, 12) := s.1 87 (by decide) (by decide)
theorem s_88 {h : Hp} (s : St h) : hS h 88 = (100, 12) := s.1 88 (by decide) (by decide)
theorem s_89 {h : Hp} (s : St h) : hS h 89 = (100, 4) := s.1 89 (by decide) (by decide)
theorem s_90 {h : Hp} (s : St h) : hS h 90 = (308, 250) := s.1 90 (by decide) (by decide)
theorem s_91 {h : Hp} (s : St h) : hS h 91 = (100, 60) := s.1 91 (by decide) (by decide)
theorem s_92 {h : Hp} (s : St h) : hS h 92 = (1, 0) := s.1 92 (by decide) (by decide)
theorem s_93 {h : Hp} (s : St h) : hS h 93 = (100, 50) := s.1 93 (by decide) (by decide)
theorem s_94 {h : Hp} (s : St h) : hS h 94 = (309, 4) := s.1 94 (by decide) (by decide)
theorem s_95 {h : Hp} (s : St h) : hS h 95 = (9, 0) := s.1 95 (by decide) (by decide)
theorem s_96 {h : Hp} (s : St h) : hS h 96 = (100, 100) := s.1 96 (by decide) (by decide)
theorem s_97 {h : Hp} (s : St h) : hS h 97 = (9, 0) := s.1 97 (by decide) (by decide)
theorem s_98 {h : Hp} (s : St h) : hS h 98 = (100, 100) := s.1 98 (by decide) (by decide)
theorem s_99 {h : Hp} (s : St h) : hS h 99 = (9, 0) := s.1 99 (by decide) (by decide)
theorem s_100 {h : Hp} (s : St h) : hS h 100 = (100, 100) := s.1 100 (by decide) (by decide)
theorem s_101 {h : Hp} (s : St h) : hS h 101 = (9, 0) := s.1 101 (by decide) (by decide)
theorem s_102 {h : Hp} (s : St h) : hS h 102 = (100, 100) := s.1 102 (by decide) (by decide)
theorem s_103 {h : Hp} (s : St h) : hS h 103 = (12, 0) := s.1 103 (by decide) (by decide)
theorem s_104 {h : Hp} (s : St h) : hS h 104 = (100, 8) := s.1 104 (by decide) (by decide)
theorem s_105 {h : Hp} (s : St h) : hS h 105 = (100, 8) := s.1 105 (by decide) (by decide)
theorem s_106 {h : Hp} (s : St h) : hS h 106 = (100, 8) := s.1 106 (by decide) (by decide)
theorem s_107 {h : Hp} (s : St h) : hS h 107 = (100, 8) := s.1 107 (by decide) (by decide)
theorem s_108 {h : Hp} (s : St h) : hS h 108 = (100, 8) := s.1 108 (by decide) (by decide)
theorem s_109 {h : Hp} (s : St h) : hS h 109 = (100, 8) := s.1 109 (by decide) (by decide)
theorem s_110 {h : Hp} (s : St h) : hS h 110 = (100, 8) := s.1 110 (by decide) (by decide)
theorem s_111 {h : Hp} (s : St h) : hS h 111 = (100, 8) := s.1 111 (by decide) (by decide)
theorem s_112 {h : Hp} (s : St h) : hS h 112 = (101, 201) := s.1 112 (by decide) (by decide)
theorem s_113 {h : Hp} (s : St h) : hS h 113 = (100, 30) := s.1 113 (by decide) (by decide)
theorem s_114 {h : Hp} (s : St h) : hS h 114 = (100, 30) := s.1 114 (by decide) (by decide)
theorem s_115 {h : Hp} (s : St h) : hS h 115 = (100, 30) := s.1 115 (by decide) (by decide)
theorem s_116 {h : Hp} (s : St h) : hS h 116 = (100, 30) := s.1 116 (by decide) (by decide)
theorem s_117 {h : Hp} (s : St h) : hS h 117 = (101, 30) := s.1 117 (by decide) (by decide)
theorem s_118 {h : Hp} (s : St h) : hS h 118 = (100, 30) := s.1 118 (by decide) (by decide)
theorem s_119 {h : Hp} (s : St h) : hS h 119 = (100, 240) := s.1 119 (by decide) (by decide)
theorem s_120 {h : Hp} (s : St h) : hS h 120 = (101, 240) := s.1 120 (by decide) (by decide)
theorem s_121 {h : Hp} (s : St h) : hS h 121 = (100, 240) := s.1 121 (by decide) (by decide)
theorem s_122 {h : Hp} (s : St h) : hS h 122 = (100, 240) := s.1 122 (by decide) (by decide)
theorem s_123 {h : Hp} (s : St h) : hS h 123 = (100, 30) := s.1 123 (by decide) (by decide)
theorem s_124 {h : Hp} (s : St h) : hS h 124 = (100, 2730) := s.1 124 (by decide) (by decide)
theorem s_125 {h : Hp} (s : St h) : hS h 125 = (100, 8) := s.1 125 (by decide) (by decide)
theorem s_126 {h : Hp} (s : St h) : hS h 126 = (100, 8) := s.1 126 (by decide) (by decide)
theorem s_127 {h : Hp} (s : St h) : hS h 127 = (100, 288) := s.1 127 (by decide) (by decide)
theorem s_128 {h : Hp} (s : St h) : hS h 128 = (100, 1440) := s.1 128 (by decide) (by decide)
theorem s_129 {h : Hp} (s : St h) : hS h 129 = (100, 250) := s.1 129 (by decide) (by decide)
theorem s_130 {h : Hp} (s : St h) : hS h 130 = (100, 250) := s.1 130 (by decide) (by decide)
theorem s_131 {h : Hp} (s : St h) : hS h 131 = (100, 250) := s.1 131 (by decide) (by decide)
theorem s_132 {h : Hp} (s : St h) : hS h 132 = (100, 250) := s.1 132 (by decide) (by decide)
theorem s_133 {h : Hp} (s : St h) : hS h 133 = (100, 250) := s.1 133 (by decide) (by decide)
theorem s_134 {h : Hp} (s : St h) : hS h 134 = (100, 250) := s.1 134 (by decide) (by decide)
theorem s_135 {h : Hp} (s : St h) : hS h 135 = (100, 250) := s.1 135 (by decide) (by decide)
theorem s_136 {h : Hp} (s : St h) : hS h 136 = (100, 160) := s.1 136 (by decide) (by decide)
theorem s_137 {h : Hp} (s : St h) : hS h 137 = (100, 4) := s.1 137 (by decide) (by decide)
theorem s_138 {h : Hp} (s : St h) : hS h 138 = (100, 4) := s.1 138 (by decide) (by decide)
theorem s_139 {h : Hp} (s : St h) : hS h 139 = (100, 400) := s.1 139 (by decide) (by decide)
theorem s_140 {h : Hp} (s : St h) : hS h 140 = (100, 50) := s.1 140 (by decide) (by decide)
theorem s_141 {h : Hp} (s : St h) : hS h 141 = (100, 39) := s.1 141 (by decide) (by decide)
theorem s_142 {h : Hp} (s : St h) : hS h 142 = (100, 180) := s.1 142 (by decide) (by decide)
theorem s_143 {h : Hp} (s : St h) : hS h 143 = (101, 80) := s.1 143 (by decide) (by decide)
theorem s_144 {h : Hp} (s : St h) : hS h 144 = (100, 8) := s.1 144 (by decide) (by decide)
theorem s_145 {h : Hp} (s : St h) : hS h 145 = (100, 8) := s.1 145 (by decide) (by decide)
theorem s_146 {h : Hp} (s : St h) : hS h 146 = (100, 1616) := s.1 146 (by decide) (by decide)
theorem s_147 {h : Hp} (s : St h) : hS h 147 = (100, 9) := s.1 147 (by decide) (by decide)
theorem s_148 {h : Hp} (s : St h) : hS h 148 = (100, 9) := s.1 148 (by decide) (by decide)
theorem s_149 {h : Hp} (s : St h) : hS h 149 = (100, 9) := s.1 149 (by decide) (by decide)
theorem s_150 {h : Hp} (s : St h) : hS h 150 = (100, 8) := s.1 150 (by decide) (by decide)
/-- Acts.traceRow -/
theorem p_0_92 {h : Hp} (s : St h) : hG h 0 92 = some 93 := s.2.1 (0, 92, 93) (List.mem_of_getElem? (i := 0) (by decide))
/-- LineReader.tape -/
theorem p_19_80 {h : Hp} (s : St h) : hG h 19 80 = some 81 := s.2.1 (19, 80, 81) (List.mem_of_getElem? (i := 1) (by decide))
/-- LineReader.kinds -/
theorem p_23_80 {h : Hp} (s : St h) : hG h 23 80 = some 82 := s.2.1 (23, 80, 82) (List.mem_of_getElem? (i := 2) (by decide))
/-- LineReader.spots -/
theorem p_24_80 {h : Hp} (s : St h) : hG h 24 80 = some 83 := s.2.1 (24, 80, 83) (List.mem_of_getElem? (i := 3) (by decide))
/-- LineReader.numbers -/
theorem p_25_80 {h : Hp} (s : St h) : hG h 25 80 = some 84 := s.2.1 (25, 80, 84) (List.mem_of_getElem? (i := 4) (by decide))
/-- Lines.steps -/
theorem p_30_85 {h : Hp} (s : St h) : hG h 30 85 = some 86 := s.2.1 (30, 85, 86) (List.mem_of_getElem? (i := 5) (by decide))
/-- Lines.stepEnds -/
theorem p_32_85 {h : Hp} (s : St h) : hG h 32 85 = some 87 := s.2.1 (32, 85, 87) (List.mem_of_getElem? (i := 6) (by decide))
/-- Lines.takes -/
theorem p_33_85 {h : Hp} (s : St h) : hG h 33 85 = some 88 := s.2.1 (33, 85, 88) (List.mem_of_getElem? (i := 7) (by decide))
/-- Planner.bestRow -/
theorem p_39_67 {h : Hp} (s : St h) : hG h 39 67 = some 68 := s.2.1 (39, 67, 68) (List.mem_of_getElem? (i := 8) (by decide))
/-- Planner.bestHours -/
theorem p_40_67 {h : Hp} (s : St h) : hG h 40 67 = some 69 := s.2.1 (40, 67, 69) (List.mem_of_getElem? (i := 9) (by decide))
/-- Planner.row -/
theorem p_42_67 {h : Hp} (s : St h) : hG h 42 67 = some 70 := s.2.1 (42, 67, 70) (List.mem_of_getElem? (i := 10) (by decide))
/-- Planner.hours -/
theorem p_43_67 {h : Hp} (s : St h) : hG h 43 67 = some 71 := s.2.1 (43, 67, 71) (List.mem_of_getElem? (i := 11) (by decide))
/-- Planner.worths -/
theorem p_44_67 {h : Hp} (s : St h) : hG h 44 67 = some 72 := s.2.1 (44, 67, 72) (List.mem_of_getElem? (i := 12) (by decide))
/-- Planner.lasting -/
theorem p_45_67 {h : Hp} (s : St h) : hG h 45 67 = some 73 := s.2.1 (45, 67, 73) (List.mem_of_getElem? (i := 13) (by decide))
/-- Planner.aheadOf -/
theorem p_46_67 {h : Hp} (s : St h) : hG h 46 67 = some 74 := s.2.1 (46, 67, 74) (List.mem_of_getElem? (i := 14) (by decide))
/-- Planner.ways -/
theorem p_47_67 {h : Hp} (s : St h) : hG h 47 67 = some 75 := s.2.1 (47, 67, 75) (List.mem_of_getElem? (i := 15) (by decide))
/-- Planner.firstHours -/
theorem p_48_67 {h : Hp} (s : St h) : hG h 48 67 = some 76 := s.2.1 (48, 67, 76) (List.mem_of_getElem? (i := 16) (by decide))
/-- Planner.leastEnds -/
theorem p_49_67 {h : Hp} (s : St h) : hG h 49 67 = some 77 := s.2.1 (49, 67, 77) (List.mem_of_getElem? (i := 17) (by decide))
/-- Sheet.numbers0 -/
theorem p_59_95 {h : Hp} (s : St h) : hG h 59 95 = some 96 := s.2.1 (59, 95, 96) (List.mem_of_getElem? (i := 18) (by decide))
/-- Sheet.numbers1 -/
theorem p_59_97 {h : Hp} (s : St h) : hG h 59 97 = some 98 := s.2.1 (59, 97, 98) (List.mem_of_getElem? (i := 19) (by decide))
/-- Sheet.numbers2 -/
theorem p_59_99 {h : Hp} (s : St h) : hG h 59 99 = some 100 := s.2.1 (59, 99, 100) (List.mem_of_getElem? (i := 20) (by decide))
/-- Sheet.numbers3 -/
theorem p_59_101 {h : Hp} (s : St h) : hG h 59 101 = some 102 := s.2.1 (59, 101, 102) (List.mem_of_getElem? (i := 21) (by decide))
/-- C.stations -/
theorem p_68_64 {h : Hp} (s : St h) : hG h 68 64 = some 65 := s.2.1 (68, 64, 65) (List.mem_of_getElem? (i := 22) (by decide))
/-- C.fitHours -/
theorem p_70_64 {h : Hp} (s : St h) : hG h 70 64 = some 66 := s.2.1 (70, 64, 66) (List.mem_of_getElem? (i := 23) (by decide))
/-- C.planner -/
theorem p_72_64 {h : Hp} (s : St h) : hG h 72 64 = some 67 := s.2.1 (72, 64, 67) (List.mem_of_getElem? (i := 24) (by decide))
/-- C.casts -/
theorem p_73_64 {h : Hp} (s : St h) : hG h 73 64 = some 78 := s.2.1 (73, 64, 78) (List.mem_of_getElem? (i := 25) (by decide))
/-- C.hands -/
theorem p_75_64 {h : Hp} (s : St h) : hG h 75 64 = some 79 := s.2.1 (75, 64, 79) (List.mem_of_getElem? (i := 26) (by decide))
/-- C.reader -/
theorem p_77_64 {h : Hp} (s : St h) : hG h 77 64 = some 80 := s.2.1 (77, 64, 80) (List.mem_of_getElem? (i := 27) (by decide))
/-- C.bottleValues -/
theorem p_78_64 {h : Hp} (s : St h) : hG h 78 64 = some 89 := s.2.1 (78, 64, 89) (List.mem_of_getElem? (i := 28) (by decide))
/-- C.samples -/
theorem p_80_64 {h : Hp} (s : St h) : hG h 80 64 = some 90 := s.2.1 (80, 64, 90) (List.mem_of_getElem? (i := 29) (by decide))
/-- C.places -/
theorem p_82_64 {h : Hp} (s : St h) : hG h 82 64 = some 91 := s.2.1 (82, 64, 91) (List.mem_of_getElem? (i := 30) (by decide))
/-- C.acts -/
theorem p_83_64 {h : Hp} (s : St h) : hG h 83 64 = some 92 := s.2.1 (83, 64, 92) (List.mem_of_getElem? (i := 31) (by decide))
/-- C.sheets -/
theorem p_84_64 {h : Hp} (s : St h) : hG h 84 64 = some 94 := s.2.1 (84, 64, 94) (List.mem_of_getElem? (i := 32) (by decide))
/-- M.x -/
theorem p_87_103 {h : Hp} (s : St h) : hG h 87 103 = some 104 := s.2.1 (87, 103, 104) (List.mem_of_getElem? (i := 33) (by decide))
/-- M.y -/
theorem p_88_103 {h : Hp} (s : St h) : hG h 88 103 = some 105 := s.2.1 (88, 103, 105) (List.mem_of_getElem? (i := 34) (by decide))
/-- M.deep -/
theorem p_89_103 {h : Hp} (s : St h) : hG h 89 103 = some 106 := s.2.1 (89, 103, 106) (List.mem_of_getElem? (i := 35) (by decide))
/-- M.worth -/
theorem p_90_103 {h : Hp} (s : St h) : hG h 90 103 = some 107 := s.2.1 (90, 103, 107) (List.mem_of_getElem? (i := 36) (by decide))
/-- M.from -/
theorem p_91_103 {h : Hp} (s : St h) : hG h 91 103 = some 108 := s.2.1 (91, 103, 108) (List.mem_of_getElem? (i := 37) (by decide))
/-- M.to -/
theorem p_92_103 {h : Hp} (s : St h) : hG h 92 103 = some 109 := s.2.1 (92, 103, 109) (List.mem_of_getElem? (i := 38) (by decide))
/-- M.light -/
theorem p_93_103 {h : Hp} (s : St h) : hG h 93 103 = some 110 := s.2.1 (93, 103, 110) (List.mem_of_getElem? (i := 39) (by decide))
/-- M.ahead -/
theorem p_94_103 {h : Hp} (s : St h) : hG h 94 103 = some 111 := s.2.1 (94, 103, 111) (List.mem_of_getElem? (i := 40) (by decide))
/-- M.isFit -/
theorem p_95_103 {h : Hp} (s : St h) : hG h 95 103 = some 112 := s.2.1 (95, 103, 112) (List.mem_of_getElem? (i := 41) (by decide))
/-- M.kind -/
theorem p_98_103 {h : Hp} (s : St h) : hG h 98 103 = some 113 := s.2.1 (98, 103, 113) (List.mem_of_getElem? (i := 42) (by decide))
/-- M.station -/
theorem p_99_103 {h : Hp} (s : St h) : hG h 99 103 = some 114 := s.2.1 (99, 103, 114) (List.mem_of_getElem? (i := 43) (by decide))
/-- M.depth -/
theorem p_100_103 {h : Hp} (s : St h) : hG h 100 103 = some 115 := s.2.1 (100, 103, 115) (List.mem_of_getElem? (i := 44) (by decide))
/-- M.began -/
theorem p_101_103 {h : Hp} (s : St h) : hG h 101 103 = some 116 := s.2.1 (101, 103, 116) (List.mem_of_getElem? (i := 45) (by decide))
/-- M.isLeft -/
theorem p_102_103 {h : Hp} (s : St h) : hG h 102 103 = some 117 := s.2.1 (102, 103, 117) (List.mem_of_getElem? (i := 46) (by decide))
/-- M.bottles -/
theorem p_103_103 {h : Hp} (s : St h) : hG h 103 103 = some 118 := s.2.1 (103, 103, 118) (List.mem_of_getElem? (i := 47) (by decide))
/-- M.bDepth -/
theorem p_104_103 {h : Hp} (s : St h) : hG h 104 103 = some 119 := s.2.1 (104, 103, 119) (List.mem_of_getElem? (i := 48) (by decide))
/-- M.bFails -/
theorem p_105_103 {h : Hp} (s : St h) : hG h 105 103 = some 120 := s.2.1 (105, 103, 120) (List.mem_of_getElem? (i := 49) (by decide))
/-- M.bShut -/
theorem p_106_103 {h : Hp} (s : St h) : hG h 106 103 = some 121 := s.2.1 (106, 103, 121) (List.mem_of_getElem? (i := 50) (by decide))
/-- M.bLeft -/
theorem p_107_103 {h : Hp} (s : St h) : hG h 107 103 = some 122 := s.2.1 (107, 103, 122) (List.mem_of_getElem? (i := 51) (by decide))
/-- M.readMany -/
theorem p_108_103 {h : Hp} (s : St h) : hG h 108 103 = some 123 := s.2.1 (108, 103, 123) (List.mem_of_getElem? (i := 52) (by decide))
/-- M.reads -/
theorem p_109_103 {h : Hp} (s : St h) : hG h 109 103 = some 124 := s.2.1 (109, 103, 124) (List.mem_of_getElem? (i := 53) (by decide))
/-- M.spoil -/
theorem p_112_103 {h : Hp} (s : St h) : hG h 112 103 = some 125 := s.2.1 (112, 103, 125) (List.mem_of_getElem? (i := 54) (by decide))
/-- M.lineMany -/
theorem p_113_103 {h : Hp} (s : St h) : hG h 113 103 = some 126 := s.2.1 (113, 103, 126) (List.mem_of_getElem? (i := 55) (by decide))
/-- M.lineOf -/
theorem p_114_103 {h : Hp} (s : St h) : hG h 114 103 = some 127 := s.2.1 (114, 103, 127) (List.mem_of_getElem? (i := 56) (by decide))
/-- M.codeOf -/
theorem p_115_103 {h : Hp} (s : St h) : hG h 115 103 = some 128 := s.2.1 (115, 103, 128) (List.mem_of_getElem? (i := 57) (by decide))
/-- M.sHand -/
theorem p_117_103 {h : Hp} (s : St h) : hG h 117 103 = some 129 := s.2.1 (117, 103, 129) (List.mem_of_getElem? (i := 58) (by decide))
/-- M.sCast -/
theorem p_118_103 {h : Hp} (s : St h) : hG h 118 103 = some 130 := s.2.1 (118, 103, 130) (List.mem_of_getElem? (i := 59) (by decide))
/-- M.sBottle -/
theorem p_119_103 {h : Hp} (s : St h) : hG h 119 103 = some 131 := s.2.1 (119, 103, 131) (List.mem_of_getElem? (i := 60) (by decide))
/-- M.sParts -/
theorem p_120_103 {h : Hp} (s : St h) : hG h 120 103 = some 132 := s.2.1 (120, 103, 132) (List.mem_of_getElem? (i := 61) (by decide))
/-- M.sPlace -/
theorem p_121_103 {h : Hp} (s : St h) : hG h 121 103 = some 133 := s.2.1 (121, 103, 133) (List.mem_of_getElem? (i := 62) (by decide))
/-- M.sHow -/
theorem p_122_103 {h : Hp} (s : St h) : hG h 122 103 = some 134 := s.2.1 (122, 103, 134) (List.mem_of_getElem? (i := 63) (by decide))
/-- M.sLine -/
theorem p_123_103 {h : Hp} (s : St h) : hG h 123 103 = some 135 := s.2.1 (123, 103, 135) (List.mem_of_getElem? (i := 64) (by decide))
/-- M.tape -/
theorem p_124_103 {h : Hp} (s : St h) : hG h 124 103 = some 136 := s.2.1 (124, 103, 136) (List.mem_of_getElem? (i := 65) (by decide))
/-- M.sort -/
theorem p_128_103 {h : Hp} (s : St h) : hG h 128 103 = some 137 := s.2.1 (128, 103, 137) (List.mem_of_getElem? (i := 66) (by decide))
/-- M.size -/
theorem p_129_103 {h : Hp} (s : St h) : hG h 129 103 = some 138 := s.2.1 (129, 103, 138) (List.mem_of_getElem? (i := 67) (by decide))
/-- M.cells -/
theorem p_130_103 {h : Hp} (s : St h) : hG h 130 103 = some 139 := s.2.1 (130, 103, 139) (List.mem_of_getElem? (i := 68) (by decide))
/-- M.traced -/
theorem p_132_103 {h : Hp} (s : St h) : hG h 132 103 = some 140 := s.2.1 (132, 103, 140) (List.mem_of_getElem? (i := 69) (by decide))
/-- M.line -/
theorem p_140_103 {h : Hp} (s : St h) : hG h 140 103 = some 141 := s.2.1 (140, 103, 141) (List.mem_of_getElem? (i := 70) (by decide))
/-- M.code -/
theorem p_142_103 {h : Hp} (s : St h) : hG h 142 103 = some 142 := s.2.1 (142, 103, 142) (List.mem_of_getElem? (i := 71) (by decide))
/-- M.pile -/
theorem p_143_103 {h : Hp} (s : St h) : hG h 143 103 = some 143 := s.2.1 (143, 103, 143) (List.mem_of_getElem? (i := 72) (by decide))
/-- M.plan -/
theorem p_148_103 {h : Hp} (s : St h) : hG h 148 103 = some 144 := s.2.1 (148, 103, 144) (List.mem_of_getElem? (i := 73) (by decide))
/-- M.planHour -/
theorem p_149_103 {h : Hp} (s : St h) : hG h 149 103 = some 145 := s.2.1 (149, 103, 145) (List.mem_of_getElem? (i := 74) (by decide))
/-- M.first -/
theorem p_150_103 {h : Hp} (s : St h) : hG h 150 103 = some 146 := s.2.1 (150, 103, 146) (List.mem_of_getElem? (i := 75) (by decide))
/-- M.row -/
theorem p_151_103 {h : Hp} (s : St h) : hG h 151 103 = some 147 := s.2.1 (151, 103, 147) (List.mem_of_getElem? (i := 76) (by decide))
/-- M.hour -/
theorem p_152_103 {h : Hp} (s : St h) : hG h 152 103 = some 148 := s.2.1 (152, 103, 148) (List.mem_of_getElem? (i := 77) (by decide))
/-- M.end -/
theorem p_153_103 {h : Hp} (s : St h) : hG h 153 103 = some 149 := s.2.1 (153, 103, 149) (List.mem_of_getElem? (i := 78) (by decide))
/-- M.lastsNow -/
theorem p_154_103 {h : Hp} (s : St h) : hG h 154 103 = some 150 := s.2.1 (154, 103, 150) (List.mem_of_getElem? (i := 79) (by decide))
theorem s_1 {h : Hp} (s : St h) : hS h 1 = (200, 6) := s.2.2.2.2.1
theorem p_200_0 {h : Hp} (s : St h) : hG h 200 0 = some 1 := s.2.2.2.2.2.2.2.2.1 200 (by decide) (by decide)
theorem s_2 {h : Hp} (s : St h) : hS h 2 = (200, 6) := s.2.2.2.2.2.1
theorem p_201_0 {h : Hp} (s : St h) : hG h 201 0 = some 2 := s.2.2.2.2.2.2.2.2.1 201 (by decide) (by decide)
theorem s_3 {h : Hp} (s : St h) : hS h 3 = (200, 6) := s.2.2.2.2.2.2.1
theorem p_202_0 {h : Hp} (s : St h) : hG h 202 0 = some 3 := s.2.2.2.2.2.2.2.2.1 202 (by decide) (by decide)
theorem s_4 {h : Hp} (s : St h) : hS h 4 = (200, 24) := s.2.2.2.2.2.2.2.1
theorem p_203_0 {h : Hp} (s : St h) : hG h 203 0 = some 4 := s.2.2.2.2.2.2.2.2.1 203 (by decide) (by decide)
theorem s_10 {h : Hp} (s : St h) : hS h 10 = (13, 0) := (s.2.2.2.2.2.2.2.2.2.2.1 0 (by decide)).1
theorem p_160_10 {h : Hp} (s : St h) : hG h 160 10 = some 20 := (s.2.2.2.2.2.2.2.2.2.2.1 0 (by decide)).2.1
theorem f_161_10 {h : Hp} (s : St h) : hF h 161 10 = 0 := (s.2.2.2.2.2.2.2.2.2.2.1 0 (by decide)).2.2.1
theorem s_20 {h : Hp} (s : St h) : hS h 20 = (202, 4) := (s.2.2.2.2.2.2.2.2.2.2.1 0 (by decide)).2.2.2.1
theorem s_11 {h : Hp} (s : St h) : hS h 11 = (13, 0) := (s.2.2.2.2.2.2.2.2.2.2.1 1 (by decide)).1
theorem p_160_11 {h : Hp} (s : St h) : hG h 160 11 = some 21 := (s.2.2.2.2.2.2.2.2.2.2.1 1 (by decide)).2.1
theorem f_161_11 {h : Hp} (s : St h) : hF h 161 11 = 0 := (s.2.2.2.2.2.2.2.2.2.2.1 1 (by decide)).2.2.1
theorem s_21 {h : Hp} (s : St h) : hS h 21 = (202, 4) := (s.2.2.2.2.2.2.2.2.2.2.1 1 (by decide)).2.2.2.1
theorem s_12 {h : Hp} (s : St h) : hS h 12 = (13, 0) := (s.2.2.2.2.2.2.2.2.2.2.1 2 (by decide)).1
theorem p_160_12 {h : Hp} (s : St h) : hG h 160 12 = some 22 := (s.2.2.2.2.2.2.2.2.2.2.1 2 (by decide)).2.1
theorem f_161_12 {h : Hp} (s : St h) : hF h 161 12 = 0 := (s.2.2.2.2.2.2.2.2.2.2.1 2 (by decide)).2.2.1
theorem s_22 {h : Hp} (s : St h) : hS h 22 = (202, 3) := (s.2.2.2.2.2.2.2.2.2.2.1 2 (by decide)).2.2.2.1
theorem s_13 {h : Hp} (s : St h) : hS h 13 = (13, 0) := (s.2.2.2.2.2.2.2.2.2.2.1 3 (by decide)).1
theorem p_160_13 {h : Hp} (s : St h) : hG h 160 13 = some 23 := (s.2.2.2.2.2.2.2.2.2.2.1 3 (by decide)).2.1
theorem f_161_13 {h : Hp} (s : St h) : hF h 161 13 = 0 := (s.2.2.2.2.2.2.2.2.2.2.1 3 (by decide)).2.2.1
theorem s_23 {h : Hp} (s : St h) : hS h 23 = (202, 2) := (s.2.2.2.2.2.2.2.2.2.2.1 3 (by decide)).2.2.2.1
theorem s_14 {h : Hp} (s : St h) : hS h 14 = (13, 0) := (s.2.2.2.2.2.2.2.2.2.2.1 4 (by decide)).1
theorem p_160_14 {h : Hp} (s : St h) : hG h 160 14 = some 24 := (s.2.2.2.2.2.2.2.2.2.2.1 4 (by decide)).2.1
theorem f_161_14 {h : Hp} (s : St h) : hF h 161 14 = 0 := (s.2.2.2.2.2.2.2.2.2.2.1 4 (by decide)).2.2.1
theorem s_24 {h : Hp} (s : St h) : hS h 24 = (202, 3) := (s.2.2.2.2.2.2.2.2.2.2.1 4 (by decide)).2.2.2.1
theorem s_15 {h : Hp} (s : St h) : hS h 15 = (13, 0) := (s.2.2.2.2.2.2.2.2.2.2.1 5 (by decide)).1
theorem p_160_15 {h : Hp} (s : St h) : hG h 160 15 = some 25 := (s.2.2.2.2.2.2.2.2.2.2.1 5 (by decide)).2.1
theorem f_161_15 {h : Hp} (s : St h) : hF h 161 15 = 0 := (s.2.2.2.2.2.2.2.2.2.2.1 5 (by decide)).2.2.1
theorem s_25 {h : Hp} (s : St h) : hS h 25 = (202, 7) := (s.2.2.2.2.2.2.2.2.2.2.1 5 (by decide)).2.2.2.1
theorem s_16 {h : Hp} (s : St h) : hS h 16 = (13, 0) := (s.2.2.2.2.2.2.2.2.2.2.1 6 (by decide)).1
theorem p_160_16 {h : Hp} (s : St h) : hG h 160 16 = some 26 := (s.2.2.2.2.2.2.2.2.2.2.1 6 (by decide)).2.1
theorem f_161_16 {h : Hp} (s : St h) : hF h 161 16 = 0 := (s.2.2.2.2.2.2.2.2.2.2.1 6 (by decide)).2.2.1
theorem s_26 {h : Hp} (s : St h) : hS h 26 = (202, 5) := (s.2.2.2.2.2.2.2.2.2.2.1 6 (by decide)).2.2.2.1
theorem s_17 {h : Hp} (s : St h) : hS h 17 = (13, 0) := (s.2.2.2.2.2.2.2.2.2.2.1 7 (by decide)).1
theorem p_160_17 {h : Hp} (s : St h) : hG h 160 17 = some 27 := (s.2.2.2.2.2.2.2.2.2.2.1 7 (by decide)).2.1
theorem f_161_17 {h : Hp} (s : St h) : hF h 161 17 = 0 := (s.2.2.2.2.2.2.2.2.2.2.1 7 (by decide)).2.2.1
theorem s_27 {h : Hp} (s : St h) : hS h 27 = (202, 4) := (s.2.2.2.2.2.2.2.2.2.2.1 7 (by decide)).2.2.2.1
theorem s_18 {h : Hp} (s : St h) : hS h 18 = (13, 0) := (s.2.2.2.2.2.2.2.2.2.2.1 8 (by decide)).1
theorem p_160_18 {h : Hp} (s : St h) : hG h 160 18 = some 28 := (s.2.2.2.2.2.2.2.2.2.2.1 8 (by decide)).2.1
theorem f_161_18 {h : Hp} (s : St h) : hF h 161 18 = 0 := (s.2.2.2.2.2.2.2.2.2.2.1 8 (by decide)).2.2.1
theorem s_28 {h : Hp} (s : St h) : hS h 28 = (202, 4) := (s.2.2.2.2.2.2.2.2.2.2.1 8 (by decide)).2.2.2.1
theorem f_204_0 {h : Hp} (s : St h) : hF h 204 0 = 1 := s.2.2.2.2.2.2.2.2.2.2.2
theorem St.n {h : Hp} (s : St h) : 151 ≤ hN h := s.2.2.2.1
theorem St_sF {h : Hp} {k a : Nat} {v : Int32} (ha : 64 ≤ a) : St (sF h k a v) ↔ St h := by
  have e : ∀ x y, y < 64 → hF (sF h k a v) x y = hF h x y := fun x y hy => by rw [hF_sF, if_neg (by omega)]
  unfold St
  simp only [hS_sF, hG_sF, hQ_sF, hN_sF, hE_sF, e 204 0 (by omega)]
  have e2 : ∀ j, j < 9 → hF (sF h k a v) 161 (10 + j) = hF h 161 (10 + j) := fun j hj => e _ _ (by omega)
  constructor
  · rintro ⟨a1, a2, a3, a4, a5, a6, a7, a8, a9, a10, a11, a12⟩
    exact ⟨a1, a2, a3, a4, a5, a6, a7, a8, a9, a10, fun j hj => by have := a11 j hj; rwa [e2 j hj] at this, a12⟩
  · rintro ⟨a1, a2, a3, a4, a5, a6, a7, a8, a9, a10, a11, a12⟩
    exact ⟨a1, a2, a3, a4, a5, a6, a7, a8, a9, a10, fun j hj => by rw [e2 j hj]; exact a11 j hj, a12⟩
theorem St_sE {h : Hp} {b i : Nat} {v : Int32} (ha : 64 ≤ b) : St (sE h b i v) ↔ St h := by
  have e : ∀ x, x < 64 → hE (sE h b i v) x = hE h x := fun x hx => hE_sE_ne (by omega)
  have e1 : ∀ j, 1 ≤ j → j ≤ 4 → hE (sE h b i v) j = hE h j := fun j _ _ => e j (by omega)
  have e2 : ∀ j, j < 9 → hE (sE h b i v) (20 + j) = hE h (20 + j) := fun j hj => e _ (by omega)
  unfold St
  simp only [hS_sE, hG_sE, hQ_sE, hN_sE, hF_sE]
  constructor
  · rintro ⟨a1, a2, a3, a4, a5, a6, a7, a8, a9, a10, a11, a12⟩
    exact ⟨a1, a2, a3, a4, a5, a6, a7, a8, a9, fun j q1 q2 => by have := a10 j q1 q2; rwa [e1 j q1 q2] at this, fun j hj => by have := a11 j hj; rwa [e2 j hj] at this, a12⟩
  · rintro ⟨a1, a2, a3, a4, a5, a6, a7, a8, a9, a10, a11, a12⟩
    exact ⟨a1, a2, a3, a4, a5, a6, a7, a8, a9, fun j q1 q2 => by rw [e1 j q1 q2]; exact a10 j q1 q2, fun j hj => by rw [e2 j hj]; exact a11 j hj, a12⟩
theorem St_sQ {h : Hp} {b i : Nat} {v : Option Nat} (ha : b ≠ 94) : St (sQ h b i v) ↔ St h := by
  unfold St
  rw [hQ_sQ_ne (b := 94) (fun q => ha q.symm)]
  simp only [hS_sQ, hG_sQ, hN_sQ, hF_sQ, hE_sQ]
theorem St_cpE {h : Hp} {a sp b dp n : Nat} (hb : 64 ≤ b) : St (cpE h a sp b dp n) ↔ St h := by
  have e : ∀ x, x < 64 → hE (cpE h a sp b dp n) x = hE h x := fun x hx => hE_cpE_ne (by omega)
  have e1 : ∀ j, 1 ≤ j → j ≤ 4 → hE (cpE h a sp b dp n) j = hE h j := fun j _ _ => e j (by omega)
  have e2 : ∀ j, j < 9 → hE (cpE h a sp b dp n) (20 + j) = hE h (20 + j) := fun j hj => e _ (by omega)
  unfold St
  simp only [hS_cpE, hG_cpE, hQ_cpE, hN_cpE, hF_cpE]
  constructor
  · rintro ⟨a1, a2, a3, a4, a5, a6, a7, a8, a9, a10, a11, a12⟩
    exact ⟨a1, a2, a3, a4, a5, a6, a7, a8, a9, fun j q1 q2 => by have := a10 j q1 q2; rwa [e1 j q1 q2] at this, fun j hj => by have := a11 j hj; rwa [e2 j hj] at this, a12⟩
  · rintro ⟨a1, a2, a3, a4, a5, a6, a7, a8, a9, a10, a11, a12⟩
    exact ⟨a1, a2, a3, a4, a5, a6, a7, a8, a9, fun j q1 q2 => by rw [e1 j q1 q2]; exact a10 j q1 q2, fun j hj => by rw [e2 j hj]; exact a11 j hj, a12⟩
theorem pt_dyn : ∀ p ∈ ptL, ¬ (p.1 = 2 ∨ p.1 = 11 ∨ p.1 = 15 ∨ p.1 = 18 ∨ p.1 = 29) := by decide
theorem pt_lo : ∀ p ∈ ptL, p.2.1 < 151 := by decide
/-- a field that may change, or one of a cell that was made later -/
theorem St.sG {h : Hp} {k a : Nat} {v : Option Nat} (s : St h) (ha : 64 ≤ a) (hk : (k = 2 ∨ k = 11 ∨ k = 15 ∨ k = 18 ∨ k = 29) ∨ 151 ≤ a) : St (sG h k a v) := by
  obtain ⟨a1, a2, a3, a4, a5, a6, a7, a8, a9, a10, a11, a12⟩ := s
  refine ⟨a1, fun p hp => ?_, a3, a4, a5, a6, a7, a8, fun f q1 q2 => ?_, a10, fun j hj => ?_, a12⟩
  · rw [hG_sG, if_neg ?_]
    · exact a2 p hp
    · rintro ⟨e1, e2⟩
      rcases hk with hk | hk
      · exact pt_dyn p hp (by rw [e1]; exact hk)
      · have := pt_lo p hp; omega
  · rw [hG_sG, if_neg (by omega)]; exact a9 f q1 q2
  · rw [hG_sG, if_neg (by omega)]; exact a11 j hj
theorem St.nw {h : Hp} {c l j : Nat} (s : St h) : St (nw h c l j) := by
  have hN := s.n
  obtain ⟨a1, a2, a3, a4, a5, a6, a7, a8, a9, a10, a11, a12⟩ := s
  refine ⟨fun a q1 q2 => ?_, fun p hp => ?_, fun i hi => ?_, ?_, ?_, ?_, ?_, ?_, fun f q1 q2 => ?_, fun j q1 q2 => ?_, fun j hj => ?_, ?_⟩
  · rw [hS_nw_ne (by omega)]; exact a1 a q1 q2
  · have := pt_lo p hp
    rw [hG_nw_ne (by omega)]; exact a2 p hp
  · rw [hQ_nw_ne (by omega)]; exact a3 i hi
  · rw [hN_nw]; omega
  · rw [hS_nw_ne (by omega)]; exact a5
  · rw [hS_nw_ne (by omega)]; exact a6
  · rw [hS_nw_ne (by omega)]; exact a7
  · rw [hS_nw_ne (by omega)]; exact a8
  · rw [hG_nw_ne (by omega)]; exact a9 f q1 q2
  · rw [hE_nw_ne (by omega)]; exact a10 j q1 q2
  · rw [hS_nw_ne (by omega), hG_nw_ne (by omega), hF_nw_ne (by omega), hS_nw_ne (by omega), hE_nw_ne (by omega)]; exact a11 j hj
  · rw [hF_nw_ne (by omega)]; exact a12
