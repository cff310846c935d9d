/-! SOUNDNESS, 7: classes and methods in the tables (written by wip/whole/mk16.py) -/
theorem ucl1 : u_ws "WaterCruise$Acts" cT1 3 = [269, 271, 273].filterMap (fun i => lw_tbl[i]?) := by decide +kernel
theorem ucg1 : (u_ws "WaterCruise$Acts" cT1 3).all goodWord = true := by decide +kernel
theorem uct1 : ∀ k, k < 3 → parseFieldDescriptor (cT1 k).2.2.1 = some (cY1 k) := by decide +kernel
theorem ucn1 : ∀ a, a < 3 → ∀ b, b < 3 → a ≠ b → (cT1 a).2.1 ≠ (cT1 b).2.1 := by decide +kernel
theorem ucf1 : ∀ k, k < 3 → ftc (fb 1 + k) = rtc (some (cY1 k)) ∧ (ftc (fb 1 + k) = 0 ∨ ftc (fb 1 + k) = 1 ∨ ftc (fb 1 + k) = 2) := by decide +kernel
theorem uci1 : wd 259 (.instantiable "WaterCruise$Acts" 3) = true ∧ wd 100 (.initialized "WaterCruise$Acts") = true := by decide +kernel
theorem ucl2 : u_ws "WaterCruise$Bottle" cT2 4 = [637, 639, 641, 643].filterMap (fun i => lw_tbl[i]?) := by decide +kernel
theorem ucg2 : (u_ws "WaterCruise$Bottle" cT2 4).all goodWord = true := by decide +kernel
theorem uct2 : ∀ k, k < 4 → parseFieldDescriptor (cT2 k).2.2.1 = some (cY2 k) := by decide +kernel
theorem ucn2 : ∀ a, a < 4 → ∀ b, b < 4 → a ≠ b → (cT2 a).2.1 ≠ (cT2 b).2.1 := by decide +kernel
theorem ucf2 : ∀ k, k < 4 → ftc (fb 2 + k) = rtc (some (cY2 k)) ∧ (ftc (fb 2 + k) = 0 ∨ ftc (fb 2 + k) = 1 ∨ ftc (fb 2 + k) = 2) := by decide +kernel
theorem uci2 : wd 620 (.instantiable "WaterCruise$Bottle" 4) = true ∧ wd 106 (.initialized "WaterCruise$Bottle") = true := by decide +kernel
theorem ucl3 : u_ws "WaterCruise$Cast" cT3 10 = [583, 585, 587, 589, 591, 593, 595, 597, 599, 601].filterMap (fun i => lw_tbl[i]?) := by decide +kernel
theorem ucg3 : (u_ws "WaterCruise$Cast" cT3 10).all goodWord = true := by decide +kernel
theorem uct3 : ∀ k, k < 10 → parseFieldDescriptor (cT3 k).2.2.1 = some (cY3 k) := by decide +kernel
theorem ucn3 : ∀ a, a < 10 → ∀ b, b < 10 → a ≠ b → (cT3 a).2.1 ≠ (cT3 b).2.1 := by decide +kernel
theorem ucf3 : ∀ k, k < 10 → ftc (fb 3 + k) = rtc (some (cY3 k)) ∧ (ftc (fb 3 + k) = 0 ∨ ftc (fb 3 + k) = 1 ∨ ftc (fb 3 + k) = 2) := by decide +kernel
theorem uci3 : wd 553 (.instantiable "WaterCruise$Cast" 10) = true ∧ wd 105 (.initialized "WaterCruise$Cast") = true := by decide +kernel
theorem ucl4 : u_ws "WaterCruise$Hand" cT4 2 = [756, 758].filterMap (fun i => lw_tbl[i]?) := by decide +kernel
theorem ucg4 : (u_ws "WaterCruise$Hand" cT4 2).all goodWord = true := by decide +kernel
theorem uct4 : ∀ k, k < 2 → parseFieldDescriptor (cT4 k).2.2.1 = some (cY4 k) := by decide +kernel
theorem ucn4 : ∀ a, a < 2 → ∀ b, b < 2 → a ≠ b → (cT4 a).2.1 ≠ (cT4 b).2.1 := by decide +kernel
theorem ucf4 : ∀ k, k < 2 → ftc (fb 4 + k) = rtc (some (cY4 k)) ∧ (ftc (fb 4 + k) = 0 ∨ ftc (fb 4 + k) = 1 ∨ ftc (fb 4 + k) = 2) := by decide +kernel
theorem uci4 : wd 745 (.instantiable "WaterCruise$Hand" 2) = true ∧ wd 107 (.initialized "WaterCruise$Hand") = true := by decide +kernel
theorem ucl5 : u_ws "WaterCruise$LineReader" cT5 11 = [233, 235, 237, 239, 241, 243, 245, 247, 249, 251, 253].filterMap (fun i => lw_tbl[i]?) := by decide +kernel
theorem ucg5 : (u_ws "WaterCruise$LineReader" cT5 11).all goodWord = true := by decide +kernel
theorem uct5 : ∀ k, k < 11 → parseFieldDescriptor (cT5 k).2.2.1 = some (cY5 k) := by decide +kernel
theorem ucn5 : ∀ a, a < 11 → ∀ b, b < 11 → a ≠ b → (cT5 a).2.1 ≠ (cT5 b).2.1 := by decide +kernel
theorem ucf5 : ∀ k, k < 11 → ftc (fb 5 + k) = rtc (some (cY5 k)) ∧ (ftc (fb 5 + k) = 0 ∨ ftc (fb 5 + k) = 1 ∨ ftc (fb 5 + k) = 2) := by decide +kernel
theorem uci5 : wd 190 (.instantiable "WaterCruise$LineReader" 11) = true ∧ wd 98 (.initialized "WaterCruise$LineReader") = true := by decide +kernel
theorem ucl6 : u_ws "WaterCruise$Lines" cT6 5 = [208, 210, 212, 214, 216].filterMap (fun i => lw_tbl[i]?) := by decide +kernel
theorem ucg6 : (u_ws "WaterCruise$Lines" cT6 5).all goodWord = true := by decide +kernel
theorem uct6 : ∀ k, k < 5 → parseFieldDescriptor (cT6 k).2.2.1 = some (cY6 k) := by decide +kernel
theorem ucn6 : ∀ a, a < 5 → ∀ b, b < 5 → a ≠ b → (cT6 a).2.1 ≠ (cT6 b).2.1 := by decide +kernel
theorem ucf6 : ∀ k, k < 5 → ftc (fb 6 + k) = rtc (some (cY6 k)) ∧ (ftc (fb 6 + k) = 0 ∨ ftc (fb 6 + k) = 1 ∨ ftc (fb 6 + k) = 2) := by decide +kernel
theorem uci6 : wd 196 (.instantiable "WaterCruise$Lines" 5) = true ∧ wd 99 (.initialized "WaterCruise$Lines") = true := by decide +kernel
theorem ucl7 : u_ws "WaterCruise$Planner" cT7 15 = [152, 154, 156, 158, 160, 162, 164, 166, 168, 170, 172, 174, 176, 178, 180].filterMap (fun i => lw_tbl[i]?) := by decide +kernel
theorem ucg7 : (u_ws "WaterCruise$Planner" cT7 15).all goodWord = true := by decide +kernel
theorem uct7 : ∀ k, k < 15 → parseFieldDescriptor (cT7 k).2.2.1 = some (cY7 k) := by decide +kernel
theorem ucn7 : ∀ a, a < 15 → ∀ b, b < 15 → a ≠ b → (cT7 a).2.1 ≠ (cT7 b).2.1 := by decide +kernel
theorem ucf7 : ∀ k, k < 15 → ftc (fb 7 + k) = rtc (some (cY7 k)) ∧ (ftc (fb 7 + k) = 0 ∨ ftc (fb 7 + k) = 1 ∨ ftc (fb 7 + k) = 2) := by decide +kernel
theorem uci7 : wd 126 (.instantiable "WaterCruise$Planner" 15) = true ∧ wd 97 (.initialized "WaterCruise$Planner") = true := by decide +kernel
theorem ucl8 : u_ws "WaterCruise$Sample" cT8 7 = [701, 703, 705, 707, 709, 711, 713].filterMap (fun i => lw_tbl[i]?) := by decide +kernel
theorem ucg8 : (u_ws "WaterCruise$Sample" cT8 7).all goodWord = true := by decide +kernel
theorem uct8 : ∀ k, k < 7 → parseFieldDescriptor (cT8 k).2.2.1 = some (cY8 k) := by decide +kernel
theorem ucn8 : ∀ a, a < 7 → ∀ b, b < 7 → a ≠ b → (cT8 a).2.1 ≠ (cT8 b).2.1 := by decide +kernel
theorem ucf8 : ∀ k, k < 7 → ftc (fb 8 + k) = rtc (some (cY8 k)) ∧ (ftc (fb 8 + k) = 0 ∨ ftc (fb 8 + k) = 1 ∨ ftc (fb 8 + k) = 2) := by decide +kernel
theorem uci8 : wd 682 (.instantiable "WaterCruise$Sample" 7) = true ∧ wd 112 (.initialized "WaterCruise$Sample") = true := by decide +kernel
theorem ucl9 : u_ws "WaterCruise$Sheet" cT9 3 = [292, 294, 296].filterMap (fun i => lw_tbl[i]?) := by decide +kernel
theorem ucg9 : (u_ws "WaterCruise$Sheet" cT9 3).all goodWord = true := by decide +kernel
theorem uct9 : ∀ k, k < 3 → parseFieldDescriptor (cT9 k).2.2.1 = some (cY9 k) := by decide +kernel
theorem ucn9 : ∀ a, a < 3 → ∀ b, b < 3 → a ≠ b → (cT9 a).2.1 ≠ (cT9 b).2.1 := by decide +kernel
theorem ucf9 : ∀ k, k < 3 → ftc (fb 9 + k) = rtc (some (cY9 k)) ∧ (ftc (fb 9 + k) = 0 ∨ ftc (fb 9 + k) = 1 ∨ ftc (fb 9 + k) = 2) := by decide +kernel
theorem uci9 : wd 281 (.instantiable "WaterCruise$Sheet" 3) = true ∧ wd 102 (.initialized "WaterCruise$Sheet") = true := by decide +kernel
theorem ucl10 : u_ws "WaterCruise$Station" cT10 8 = [390, 392, 394, 396, 398, 400, 402, 404].filterMap (fun i => lw_tbl[i]?) := by decide +kernel
theorem ucg10 : (u_ws "WaterCruise$Station" cT10 8).all goodWord = true := by decide +kernel
theorem uct10 : ∀ k, k < 8 → parseFieldDescriptor (cT10 k).2.2.1 = some (cY10 k) := by decide +kernel
theorem ucn10 : ∀ a, a < 8 → ∀ b, b < 8 → a ≠ b → (cT10 a).2.1 ≠ (cT10 b).2.1 := by decide +kernel
theorem ucf10 : ∀ k, k < 8 → ftc (fb 10 + k) = rtc (some (cY10 k)) ∧ (ftc (fb 10 + k) = 0 ∨ ftc (fb 10 + k) = 1 ∨ ftc (fb 10 + k) = 2) := by decide +kernel
theorem uci10 : wd 365 (.instantiable "WaterCruise$Station" 8) = true ∧ wd 104 (.initialized "WaterCruise$Station") = true := by decide +kernel
theorem ucl11 : u_ws "WaterCruise" cT11 18 = [317, 319, 321, 323, 325, 327, 329, 331, 333, 335, 337, 339, 341, 343, 345, 347, 349, 351].filterMap (fun i => lw_tbl[i]?) := by decide +kernel
theorem ucg11 : (u_ws "WaterCruise" cT11 18).all goodWord = true := by decide +kernel
theorem uct11 : ∀ k, k < 18 → parseFieldDescriptor (cT11 k).2.2.1 = some (cY11 k) := by decide +kernel
theorem ucn11 : ∀ a, a < 18 → ∀ b, b < 18 → a ≠ b → (cT11 a).2.1 ≠ (cT11 b).2.1 := by decide +kernel
theorem ucf11 : ∀ k, k < 18 → ftc (fb 11 + k) = rtc (some (cY11 k)) ∧ (ftc (fb 11 + k) = 0 ∨ ftc (fb 11 + k) = 1 ∨ ftc (fb 11 + k) = 2) := by decide +kernel
theorem uci11 : wd 116 (.instantiable "WaterCruise" 18) = true ∧ wd 96 (.initialized "WaterCruise") = true := by decide +kernel
theorem ucl12 : u_ws "WaterCruiseModel" cT12 69 = [1151, 1153, 1155, 1157, 1159, 1161, 1163, 1165, 1167, 1169, 1171, 1173, 1175, 1177, 1179, 1181, 1183, 1185, 1187, 1189, 1191, 1193, 1195, 1197, 1199, 1201, 1203, 1205, 1207, 1209, 1211, 1213, 1215, 1217, 1219, 1221, 1223, 1225, 1227, 1229, 1231, 1233, 1235, 1237, 1239, 1241, 1243, 1245, 1247, 1249, 1251, 1253, 1255, 1257, 1259, 1261, 1263, 1265, 1267, 1269, 1271, 1273, 1275, 1277, 1279, 1281, 1283, 1285, 1287].filterMap (fun i => lw_tbl[i]?) := by decide +kernel
theorem ucg12 : (u_ws "WaterCruiseModel" cT12 69).all goodWord = true := by decide +kernel
theorem uct12 : ∀ k, k < 69 → parseFieldDescriptor (cT12 k).2.2.1 = some (cY12 k) := by decide +kernel
theorem ucn12 : ∀ a, a < 69 → ∀ b, b < 69 → a ≠ b → (cT12 a).2.1 ≠ (cT12 b).2.1 := by decide +kernel
theorem ucf12 : ∀ k, k < 69 → ftc (fb 12 + k) = rtc (some (cY12 k)) ∧ (ftc (fb 12 + k) = 0 ∨ ftc (fb 12 + k) = 1 ∨ ftc (fb 12 + k) = 2) := by decide +kernel
theorem uci12 : wd 1077 (.instantiable "WaterCruiseModel" 69) = true ∧ wd 103 (.initialized "WaterCruiseModel") = true := by decide +kernel
theorem in_gw {ws : List Cond} {ps : List Nat} (hp : ws = ps.filterMap (fun i => lw_tbl[i]?)) (hg : ws.all goodWord = true) : ∀ w ∈ ws, w ∈ gw := by
  intro w hw
  refine List.mem_filter.mpr ⟨?_, List.all_eq_true.mp hg w hw⟩
  rw [hp] at hw
  obtain ⟨i, -, hi⟩ := List.mem_filterMap.mp hw
  exact List.mem_of_getElem? hi
theorem cls_at : ∀ c, 1 ≤ c → c ≤ 12 → clsL[c - 1]? = some (cnm c, cT c, cN c) := by
  intro c h1 h2
  rcases (show c = 1 ∨ c = 2 ∨ c = 3 ∨ c = 4 ∨ c = 5 ∨ c = 6 ∨ c = 7 ∨ c = 8 ∨ c = 9 ∨ c = 10 ∨ c = 11 ∨ c = 12 by omega) with rfl | rfl | rfl | rfl | rfl | rfl | rfl | rfl | rfl | rfl | rfl | rfl
  · exact rfl
  · exact rfl
  · exact rfl
  · exact rfl
  · exact rfl
  · exact rfl
  · exact rfl
  · exact rfl
  · exact rfl
  · exact rfl
  · exact rfl
  · exact rfl
theorem cls_in : ∀ c, 1 ≤ c → c ≤ 12 → ∀ w ∈ u_ws (cnm c) (cT c) (cN c), w ∈ gw := by
  intro c h1 h2
  rcases (show c = 1 ∨ c = 2 ∨ c = 3 ∨ c = 4 ∨ c = 5 ∨ c = 6 ∨ c = 7 ∨ c = 8 ∨ c = 9 ∨ c = 10 ∨ c = 11 ∨ c = 12 by omega) with rfl | rfl | rfl | rfl | rfl | rfl | rfl | rfl | rfl | rfl | rfl | rfl
  · exact in_gw ucl1 ucg1
  · exact in_gw ucl2 ucg2
  · exact in_gw ucl3 ucg3
  · exact in_gw ucl4 ucg4
  · exact in_gw ucl5 ucg5
  · exact in_gw ucl6 ucg6
  · exact in_gw ucl7 ucg7
  · exact in_gw ucl8 ucg8
  · exact in_gw ucl9 ucg9
  · exact in_gw ucl10 ucg10
  · exact in_gw ucl11 ucg11
  · exact in_gw ucl12 ucg12
theorem cls_ty : ∀ c, 1 ≤ c → c ≤ 12 → ∀ k, k < cN c → parseFieldDescriptor (cT c k).2.2.1 = some (cY c k) := by
  intro c h1 h2
  rcases (show c = 1 ∨ c = 2 ∨ c = 3 ∨ c = 4 ∨ c = 5 ∨ c = 6 ∨ c = 7 ∨ c = 8 ∨ c = 9 ∨ c = 10 ∨ c = 11 ∨ c = 12 by omega) with rfl | rfl | rfl | rfl | rfl | rfl | rfl | rfl | rfl | rfl | rfl | rfl
  · exact uct1
  · exact uct2
  · exact uct3
  · exact uct4
  · exact uct5
  · exact uct6
  · exact uct7
  · exact uct8
  · exact uct9
  · exact uct10
  · exact uct11
  · exact uct12
theorem cls_nm : ∀ c, 1 ≤ c → c ≤ 12 → ∀ a, a < cN c → ∀ b, b < cN c → a ≠ b → (cT c a).2.1 ≠ (cT c b).2.1 := by
  intro c h1 h2
  rcases (show c = 1 ∨ c = 2 ∨ c = 3 ∨ c = 4 ∨ c = 5 ∨ c = 6 ∨ c = 7 ∨ c = 8 ∨ c = 9 ∨ c = 10 ∨ c = 11 ∨ c = 12 by omega) with rfl | rfl | rfl | rfl | rfl | rfl | rfl | rfl | rfl | rfl | rfl | rfl
  · exact ucn1
  · exact ucn2
  · exact ucn3
  · exact ucn4
  · exact ucn5
  · exact ucn6
  · exact ucn7
  · exact ucn8
  · exact ucn9
  · exact ucn10
  · exact ucn11
  · exact ucn12
theorem cls_ft : ∀ c, 1 ≤ c → c ≤ 12 → ∀ k, k < cN c → ftc (fb c + k) = rtc (some (cY c k)) ∧ (ftc (fb c + k) = 0 ∨ ftc (fb c + k) = 1 ∨ ftc (fb c + k) = 2) := by
  intro c h1 h2
  rcases (show c = 1 ∨ c = 2 ∨ c = 3 ∨ c = 4 ∨ c = 5 ∨ c = 6 ∨ c = 7 ∨ c = 8 ∨ c = 9 ∨ c = 10 ∨ c = 11 ∨ c = 12 by omega) with rfl | rfl | rfl | rfl | rfl | rfl | rfl | rfl | rfl | rfl | rfl | rfl
  · exact ucf1
  · exact ucf2
  · exact ucf3
  · exact ucf4
  · exact ucf5
  · exact ucf6
  · exact ucf7
  · exact ucf8
  · exact ucf9
  · exact ucf10
  · exact ucf11
  · exact ucf12
theorem cls_ii : ∀ c, 1 ≤ c → c ≤ 12 → Cond.instantiable (cnm c) (cN c) ∈ gw ∧ Cond.initialized (cnm c) ∈ gw := by
  intro c h1 h2
  rcases (show c = 1 ∨ c = 2 ∨ c = 3 ∨ c = 4 ∨ c = 5 ∨ c = 6 ∨ c = 7 ∨ c = 8 ∨ c = 9 ∨ c = 10 ∨ c = 11 ∨ c = 12 by omega) with rfl | rfl | rfl | rfl | rfl | rfl | rfl | rfl | rfl | rfl | rfl | rfl
  · exact ⟨wd_in uci1.1, wd_in uci1.2⟩
  · exact ⟨wd_in uci2.1, wd_in uci2.2⟩
  · exact ⟨wd_in uci3.1, wd_in uci3.2⟩
  · exact ⟨wd_in uci4.1, wd_in uci4.2⟩
  · exact ⟨wd_in uci5.1, wd_in uci5.2⟩
  · exact ⟨wd_in uci6.1, wd_in uci6.2⟩
  · exact ⟨wd_in uci7.1, wd_in uci7.2⟩
  · exact ⟨wd_in uci8.1, wd_in uci8.2⟩
  · exact ⟨wd_in uci9.1, wd_in uci9.2⟩
  · exact ⟨wd_in uci10.1, wd_in uci10.2⟩
  · exact ⟨wd_in uci11.1, wd_in uci11.2⟩
  · exact ⟨wd_in uci12.1, wd_in uci12.2⟩
set_option maxRecDepth 50000 in
theorem mcd0 : lw_tbl[262]? = some (Cond.code (mN 0) (mB 0) (mxl 0) (mR 0)) := rfl
set_option maxRecDepth 50000 in
theorem mcd1 : lw_tbl[1028]? = some (Cond.code (mN 1) (mB 1) (mxl 1) (mR 1)) := rfl
set_option maxRecDepth 50000 in
theorem mcd2 : lw_tbl[1032]? = some (Cond.code (mN 2) (mB 2) (mxl 2) (mR 2)) := rfl
set_option maxRecDepth 50000 in
theorem mcd3 : lw_tbl[1043]? = some (Cond.code (mN 3) (mB 3) (mxl 3) (mR 3)) := rfl
set_option maxRecDepth 50000 in
theorem mcd4 : lw_tbl[1035]? = some (Cond.code (mN 4) (mB 4) (mxl 4) (mR 4)) := rfl
set_option maxRecDepth 50000 in
theorem mcd5 : lw_tbl[623]? = some (Cond.code (mN 5) (mB 5) (mxl 5) (mR 5)) := rfl
set_option maxRecDepth 50000 in
theorem mcd6 : lw_tbl[556]? = some (Cond.code (mN 6) (mB 6) (mxl 6) (mR 6)) := rfl
set_option maxRecDepth 50000 in
theorem mcd7 : lw_tbl[458]? = some (Cond.code (mN 7) (mB 7) (mxl 7) (mR 7)) := rfl
set_option maxRecDepth 50000 in
theorem mcd8 : lw_tbl[451]? = some (Cond.code (mN 8) (mB 8) (mxl 8) (mR 8)) := rfl
set_option maxRecDepth 50000 in
theorem mcd9 : lw_tbl[615]? = some (Cond.code (mN 9) (mB 9) (mxl 9) (mR 9)) := rfl
set_option maxRecDepth 50000 in
theorem mcd10 : lw_tbl[658]? = some (Cond.code (mN 10) (mB 10) (mxl 10) (mR 10)) := rfl
set_option maxRecDepth 50000 in
theorem mcd11 : lw_tbl[1003]? = some (Cond.code (mN 11) (mB 11) (mxl 11) (mR 11)) := rfl
set_option maxRecDepth 50000 in
theorem mcd12 : lw_tbl[1008]? = some (Cond.code (mN 12) (mB 12) (mxl 12) (mR 12)) := rfl
set_option maxRecDepth 50000 in
theorem mcd13 : lw_tbl[748]? = some (Cond.code (mN 13) (mB 13) (mxl 13) (mR 13)) := rfl
set_option maxRecDepth 50000 in
theorem mcd14 : lw_tbl[193]? = some (Cond.code (mN 14) (mB 14) (mxl 14) (mR 14)) := rfl
set_option maxRecDepth 50000 in
theorem mcd15 : lw_tbl[769]? = some (Cond.code (mN 15) (mB 15) (mxl 15) (mR 15)) := rfl
set_option maxRecDepth 50000 in
theorem mcd16 : lw_tbl[777]? = some (Cond.code (mN 16) (mB 16) (mxl 16) (mR 16)) := rfl
set_option maxRecDepth 50000 in
theorem mcd17 : lw_tbl[935]? = some (Cond.code (mN 17) (mB 17) (mxl 17) (mR 17)) := rfl
set_option maxRecDepth 50000 in
theorem mcd18 : lw_tbl[781]? = some (Cond.code (mN 18) (mB 18) (mxl 18) (mR 18)) := rfl
set_option maxRecDepth 50000 in
theorem mcd19 : lw_tbl[785]? = some (Cond.code (mN 19) (mB 19) (mxl 19) (mR 19)) := rfl
set_option maxRecDepth 50000 in
theorem mcd20 : lw_tbl[796]? = some (Cond.code (mN 20) (mB 20) (mxl 20) (mR 20)) := rfl
set_option maxRecDepth 50000 in
theorem mcd21 : lw_tbl[807]? = some (Cond.code (mN 21) (mB 21) (mxl 21) (mR 21)) := rfl
set_option maxRecDepth 50000 in
theorem mcd22 : lw_tbl[789]? = some (Cond.code (mN 22) (mB 22) (mxl 22) (mR 22)) := rfl
set_option maxRecDepth 50000 in
theorem mcd23 : lw_tbl[800]? = some (Cond.code (mN 23) (mB 23) (mxl 23) (mR 23)) := rfl
set_option maxRecDepth 50000 in
theorem mcd24 : lw_tbl[811]? = some (Cond.code (mN 24) (mB 24) (mxl 24) (mR 24)) := rfl
set_option maxRecDepth 50000 in
theorem mcd25 : lw_tbl[816]? = some (Cond.code (mN 25) (mB 25) (mxl 25) (mR 25)) := rfl
set_option maxRecDepth 50000 in
theorem mcd26 : lw_tbl[875]? = some (Cond.code (mN 26) (mB 26) (mxl 26) (mR 26)) := rfl
set_option maxRecDepth 50000 in
theorem mcd27 : lw_tbl[792]? = some (Cond.code (mN 27) (mB 27) (mxl 27) (mR 27)) := rfl
set_option maxRecDepth 50000 in
theorem mcd28 : lw_tbl[803]? = some (Cond.code (mN 28) (mB 28) (mxl 28) (mR 28)) := rfl
set_option maxRecDepth 50000 in
theorem mcd29 : lw_tbl[887]? = some (Cond.code (mN 29) (mB 29) (mxl 29) (mR 29)) := rfl
set_option maxRecDepth 50000 in
theorem mcd30 : lw_tbl[904]? = some (Cond.code (mN 30) (mB 30) (mxl 30) (mR 30)) := rfl
set_option maxRecDepth 50000 in
theorem mcd31 : lw_tbl[908]? = some (Cond.code (mN 31) (mB 31) (mxl 31) (mR 31)) := rfl
set_option maxRecDepth 50000 in
theorem mcd32 : lw_tbl[912]? = some (Cond.code (mN 32) (mB 32) (mxl 32) (mR 32)) := rfl
set_option maxRecDepth 50000 in
theorem mcd33 : lw_tbl[920]? = some (Cond.code (mN 33) (mB 33) (mxl 33) (mR 33)) := rfl
set_option maxRecDepth 50000 in
theorem mcd34 : lw_tbl[924]? = some (Cond.code (mN 34) (mB 34) (mxl 34) (mR 34)) := rfl
set_option maxRecDepth 50000 in
theorem mcd35 : lw_tbl[899]? = some (Cond.code (mN 35) (mB 35) (mxl 35) (mR 35)) := rfl
set_option maxRecDepth 50000 in
theorem mcd36 : lw_tbl[895]? = some (Cond.code (mN 36) (mB 36) (mxl 36) (mR 36)) := rfl
set_option maxRecDepth 50000 in
theorem mcd37 : lw_tbl[883]? = some (Cond.code (mN 37) (mB 37) (mxl 37) (mR 37)) := rfl
set_option maxRecDepth 50000 in
theorem mcd38 : lw_tbl[891]? = some (Cond.code (mN 38) (mB 38) (mxl 38) (mR 38)) := rfl
set_option maxRecDepth 50000 in
theorem mcd39 : lw_tbl[199]? = some (Cond.code (mN 39) (mB 39) (mxl 39) (mR 39)) := rfl
set_option maxRecDepth 50000 in
theorem mcd40 : lw_tbl[879]? = some (Cond.code (mN 40) (mB 40) (mxl 40) (mR 40)) := rfl
set_option maxRecDepth 50000 in
theorem mcd41 : lw_tbl[927]? = some (Cond.code (mN 41) (mB 41) (mxl 41) (mR 41)) := rfl
set_option maxRecDepth 50000 in
theorem mcd42 : lw_tbl[916]? = some (Cond.code (mN 42) (mB 42) (mxl 42) (mR 42)) := rfl
set_option maxRecDepth 50000 in
theorem mcd43 : lw_tbl[931]? = some (Cond.code (mN 43) (mB 43) (mxl 43) (mR 43)) := rfl
set_option maxRecDepth 50000 in
theorem mcd44 : lw_tbl[674]? = some (Cond.code (mN 44) (mB 44) (mxl 44) (mR 44)) := rfl
set_option maxRecDepth 50000 in
theorem mcd45 : lw_tbl[678]? = some (Cond.code (mN 45) (mB 45) (mxl 45) (mR 45)) := rfl
set_option maxRecDepth 50000 in
theorem mcd46 : lw_tbl[681]? = some (Cond.code (mN 46) (mB 46) (mxl 46) (mR 46)) := rfl
set_option maxRecDepth 50000 in
theorem mcd47 : lw_tbl[129]? = some (Cond.code (mN 47) (mB 47) (mxl 47) (mR 47)) := rfl
set_option maxRecDepth 50000 in
theorem mcd48 : lw_tbl[495]? = some (Cond.code (mN 48) (mB 48) (mxl 48) (mR 48)) := rfl
set_option maxRecDepth 50000 in
theorem mcd49 : lw_tbl[510]? = some (Cond.code (mN 49) (mB 49) (mxl 49) (mR 49)) := rfl
set_option maxRecDepth 50000 in
theorem mcd50 : lw_tbl[519]? = some (Cond.code (mN 50) (mB 50) (mxl 50) (mR 50)) := rfl
set_option maxRecDepth 50000 in
theorem mcd51 : lw_tbl[524]? = some (Cond.code (mN 51) (mB 51) (mxl 51) (mR 51)) := rfl
set_option maxRecDepth 50000 in
theorem mcd52 : lw_tbl[528]? = some (Cond.code (mN 52) (mB 52) (mxl 52) (mR 52)) := rfl
set_option maxRecDepth 50000 in
theorem mcd53 : lw_tbl[536]? = some (Cond.code (mN 53) (mB 53) (mxl 53) (mR 53)) := rfl
set_option maxRecDepth 50000 in
theorem mcd54 : lw_tbl[532]? = some (Cond.code (mN 54) (mB 54) (mxl 54) (mR 54)) := rfl
set_option maxRecDepth 50000 in
theorem mcd55 : lw_tbl[685]? = some (Cond.code (mN 55) (mB 55) (mxl 55) (mR 55)) := rfl
set_option maxRecDepth 50000 in
theorem mcd56 : lw_tbl[284]? = some (Cond.code (mN 56) (mB 56) (mxl 56) (mR 56)) := rfl
set_option maxRecDepth 50000 in
theorem mcd57 : lw_tbl[980]? = some (Cond.code (mN 57) (mB 57) (mxl 57) (mR 57)) := rfl
set_option maxRecDepth 50000 in
theorem mcd58 : lw_tbl[988]? = some (Cond.code (mN 58) (mB 58) (mxl 58) (mR 58)) := rfl
set_option maxRecDepth 50000 in
theorem mcd59 : lw_tbl[368]? = some (Cond.code (mN 59) (mB 59) (mxl 59) (mR 59)) := rfl
set_option maxRecDepth 50000 in
theorem mcd60 : lw_tbl[479]? = some (Cond.code (mN 60) (mB 60) (mxl 60) (mR 60)) := rfl
set_option maxRecDepth 50000 in
theorem mcd61 : lw_tbl[514]? = some (Cond.code (mN 61) (mB 61) (mxl 61) (mR 61)) := rfl
set_option maxRecDepth 50000 in
theorem mcd62 : lw_tbl[119]? = some (Cond.code (mN 62) (mB 62) (mxl 62) (mR 62)) := rfl
set_option maxRecDepth 50000 in
theorem mcd63 : lw_tbl[357]? = some (Cond.code (mN 63) (mB 63) (mxl 63) (mR 63)) := rfl
set_option maxRecDepth 50000 in
theorem mcd64 : lw_tbl[418]? = some (Cond.code (mN 64) (mB 64) (mxl 64) (mR 64)) := rfl
set_option maxRecDepth 50000 in
theorem mcd65 : lw_tbl[426]? = some (Cond.code (mN 65) (mB 65) (mxl 65) (mR 65)) := rfl
set_option maxRecDepth 50000 in
theorem mcd66 : lw_tbl[430]? = some (Cond.code (mN 66) (mB 66) (mxl 66) (mR 66)) := rfl
set_option maxRecDepth 50000 in
theorem mcd67 : lw_tbl[438]? = some (Cond.code (mN 67) (mB 67) (mxl 67) (mR 67)) := rfl
set_option maxRecDepth 50000 in
theorem mcd68 : lw_tbl[442]? = some (Cond.code (mN 68) (mB 68) (mxl 68) (mR 68)) := rfl
set_option maxRecDepth 50000 in
theorem mcd69 : lw_tbl[487]? = some (Cond.code (mN 69) (mB 69) (mxl 69) (mR 69)) := rfl
set_option maxRecDepth 50000 in
theorem mcd70 : lw_tbl[540]? = some (Cond.code (mN 70) (mB 70) (mxl 70) (mR 70)) := rfl
set_option maxRecDepth 50000 in
theorem mcd71 : lw_tbl[410]? = some (Cond.code (mN 71) (mB 71) (mxl 71) (mR 71)) := rfl
set_option maxRecDepth 50000 in
theorem mcd72 : lw_tbl[491]? = some (Cond.code (mN 72) (mB 72) (mxl 72) (mR 72)) := rfl
set_option maxRecDepth 50000 in
theorem mcd73 : lw_tbl[447]? = some (Cond.code (mN 73) (mB 73) (mxl 73) (mR 73)) := rfl
set_option maxRecDepth 50000 in
theorem mcd74 : lw_tbl[471]? = some (Cond.code (mN 74) (mB 74) (mxl 74) (mR 74)) := rfl
set_option maxRecDepth 50000 in
theorem mcd75 : lw_tbl[475]? = some (Cond.code (mN 75) (mB 75) (mxl 75) (mR 75)) := rfl
set_option maxRecDepth 50000 in
theorem mcd76 : lw_tbl[434]? = some (Cond.code (mN 76) (mB 76) (mxl 76) (mR 76)) := rfl
set_option maxRecDepth 50000 in
theorem mcd77 : lw_tbl[544]? = some (Cond.code (mN 77) (mB 77) (mxl 77) (mR 77)) := rfl
set_option maxRecDepth 50000 in
theorem mcd78 : lw_tbl[607]? = some (Cond.code (mN 78) (mB 78) (mxl 78) (mR 78)) := rfl
set_option maxRecDepth 50000 in
theorem mcd79 : lw_tbl[649]? = some (Cond.code (mN 79) (mB 79) (mxl 79) (mR 79)) := rfl
set_option maxRecDepth 50000 in
theorem mcd80 : lw_tbl[654]? = some (Cond.code (mN 80) (mB 80) (mxl 80) (mR 80)) := rfl
set_option maxRecDepth 50000 in
theorem mcd81 : lw_tbl[724]? = some (Cond.code (mN 81) (mB 81) (mxl 81) (mR 81)) := rfl
set_option maxRecDepth 50000 in
theorem mcd82 : lw_tbl[728]? = some (Cond.code (mN 82) (mB 82) (mxl 82) (mR 82)) := rfl
set_option maxRecDepth 50000 in
theorem mcd83 : lw_tbl[736]? = some (Cond.code (mN 83) (mB 83) (mxl 83) (mR 83)) := rfl
set_option maxRecDepth 50000 in
theorem mcd84 : lw_tbl[740]? = some (Cond.code (mN 84) (mB 84) (mxl 84) (mR 84)) := rfl
set_option maxRecDepth 50000 in
theorem mcd85 : lw_tbl[732]? = some (Cond.code (mN 85) (mB 85) (mxl 85) (mR 85)) := rfl
set_option maxRecDepth 50000 in
theorem mcd86 : lw_tbl[744]? = some (Cond.code (mN 86) (mB 86) (mxl 86) (mR 86)) := rfl
set_option maxRecDepth 50000 in
theorem mcd87 : lw_tbl[764]? = some (Cond.code (mN 87) (mB 87) (mxl 87) (mR 87)) := rfl
set_option maxRecDepth 50000 in
theorem mcd88 : lw_tbl[773]? = some (Cond.code (mN 88) (mB 88) (mxl 88) (mR 88)) := rfl
set_option maxRecDepth 50000 in
theorem mcd89 : lw_tbl[940]? = some (Cond.code (mN 89) (mB 89) (mxl 89) (mR 89)) := rfl
set_option maxRecDepth 50000 in
theorem mcd90 : lw_tbl[1020]? = some (Cond.code (mN 90) (mB 90) (mxl 90) (mR 90)) := rfl
set_option maxRecDepth 50000 in
theorem mcd91 : lw_tbl[944]? = some (Cond.code (mN 91) (mB 91) (mxl 91) (mR 91)) := rfl
set_option maxRecDepth 50000 in
theorem mcd92 : lw_tbl[956]? = some (Cond.code (mN 92) (mB 92) (mxl 92) (mR 92)) := rfl
set_option maxRecDepth 50000 in
theorem mcd93 : lw_tbl[960]? = some (Cond.code (mN 93) (mB 93) (mxl 93) (mR 93)) := rfl
set_option maxRecDepth 50000 in
theorem mcd94 : lw_tbl[964]? = some (Cond.code (mN 94) (mB 94) (mxl 94) (mR 94)) := rfl
set_option maxRecDepth 50000 in
theorem mcd95 : lw_tbl[662]? = some (Cond.code (mN 95) (mB 95) (mxl 95) (mR 95)) := rfl
set_option maxRecDepth 50000 in
theorem mcd96 : lw_tbl[666]? = some (Cond.code (mN 96) (mB 96) (mxl 96) (mR 96)) := rfl
set_option maxRecDepth 50000 in
theorem mcd97 : lw_tbl[720]? = some (Cond.code (mN 97) (mB 97) (mxl 97) (mR 97)) := rfl
set_option maxRecDepth 50000 in
theorem mcd98 : lw_tbl[952]? = some (Cond.code (mN 98) (mB 98) (mxl 98) (mR 98)) := rfl
set_option maxRecDepth 50000 in
theorem mcd99 : lw_tbl[968]? = some (Cond.code (mN 99) (mB 99) (mxl 99) (mR 99)) := rfl
set_option maxRecDepth 50000 in
theorem mcd100 : lw_tbl[976]? = some (Cond.code (mN 100) (mB 100) (mxl 100) (mR 100)) := rfl
set_option maxRecDepth 50000 in
theorem mcd101 : lw_tbl[984]? = some (Cond.code (mN 101) (mB 101) (mxl 101) (mR 101)) := rfl
set_option maxRecDepth 50000 in
theorem mcd102 : lw_tbl[992]? = some (Cond.code (mN 102) (mB 102) (mxl 102) (mR 102)) := rfl
set_option maxRecDepth 50000 in
theorem mcd103 : lw_tbl[999]? = some (Cond.code (mN 103) (mB 103) (mxl 103) (mR 103)) := rfl
set_option maxRecDepth 50000 in
theorem mcd104 : lw_tbl[1016]? = some (Cond.code (mN 104) (mB 104) (mxl 104) (mR 104)) := rfl
set_option maxRecDepth 50000 in
theorem mcd105 : lw_tbl[1024]? = some (Cond.code (mN 105) (mB 105) (mxl 105) (mR 105)) := rfl
set_option maxRecDepth 50000 in
theorem mcd106 : lw_tbl[1048]? = some (Cond.code (mN 106) (mB 106) (mxl 106) (mR 106)) := rfl
set_option maxRecDepth 50000 in
theorem mcd107 : lw_tbl[1052]? = some (Cond.code (mN 107) (mB 107) (mxl 107) (mR 107)) := rfl
set_option maxRecDepth 50000 in
theorem mcd108 : lw_tbl[1075]? = some (Cond.code (mN 108) (mB 108) (mxl 108) (mR 108)) := rfl
set_option maxRecDepth 50000 in
theorem mcd109 : lw_tbl[1059]? = some (Cond.code (mN 109) (mB 109) (mxl 109) (mR 109)) := rfl
set_option maxRecDepth 50000 in
theorem mcd110 : lw_tbl[1063]? = some (Cond.code (mN 110) (mB 110) (mxl 110) (mR 110)) := rfl
set_option maxRecDepth 50000 in
theorem mcd111 : lw_tbl[1067]? = some (Cond.code (mN 111) (mB 111) (mxl 111) (mR 111)) := rfl
set_option maxRecDepth 50000 in
theorem mcd112 : lw_tbl[1071]? = some (Cond.code (mN 112) (mB 112) (mxl 112) (mR 112)) := rfl
set_option maxRecDepth 50000 in
theorem mcd113 : lw_tbl[414]? = some (Cond.code (mN 113) (mB 113) (mxl 113) (mR 113)) := rfl
set_option maxRecDepth 50000 in
theorem mcd114 : lw_tbl[364]? = some (Cond.code (mN 114) (mB 114) (mxl 114) (mR 114)) := rfl
set_option maxRecDepth 50000 in
theorem mcd115 : lw_tbl[422]? = some (Cond.code (mN 115) (mB 115) (mxl 115) (mR 115)) := rfl
set_option maxRecDepth 50000 in
theorem mcd116 : lw_tbl[611]? = some (Cond.code (mN 116) (mB 116) (mxl 116) (mR 116)) := rfl
set_option maxRecDepth 50000 in
theorem mcd117 : lw_tbl[670]? = some (Cond.code (mN 117) (mB 117) (mxl 117) (mR 117)) := rfl
set_option maxRecDepth 50000 in
theorem mcd118 : lw_tbl[948]? = some (Cond.code (mN 118) (mB 118) (mxl 118) (mR 118)) := rfl
set_option maxRecDepth 50000 in
theorem mcd119 : lw_tbl[972]? = some (Cond.code (mN 119) (mB 119) (mxl 119) (mR 119)) := rfl
set_option maxRecDepth 50000 in
theorem mcd120 : lw_tbl[618]? = some (Cond.code (mN 120) (mB 120) (mxl 120) (mR 120)) := rfl
set_option maxRecDepth 50000 in
theorem mcd121 : lw_tbl[360]? = some (Cond.code (mN 121) (mB 121) (mxl 121) (mR 121)) := rfl
set_option maxRecDepth 50000 in
theorem mcd122 : lw_tbl[463]? = some (Cond.code (mN 122) (mB 122) (mxl 122) (mR 122)) := rfl
set_option maxRecDepth 50000 in
theorem mcd123 : lw_tbl[547]? = some (Cond.code (mN 123) (mB 123) (mxl 123) (mR 123)) := rfl
set_option maxRecDepth 50000 in
theorem mcd124 : lw_tbl[550]? = some (Cond.code (mN 124) (mB 124) (mxl 124) (mR 124)) := rfl
set_option maxRecDepth 50000 in
theorem mcd125 : lw_tbl[1012]? = some (Cond.code (mN 125) (mB 125) (mxl 125) (mR 125)) := rfl
set_option maxRecDepth 50000 in
theorem mcd126 : lw_tbl[1080]? = some (Cond.code (mN 126) (mB 126) (mxl 126) (mR 126)) := rfl
set_option maxRecDepth 50000 in
theorem mcd127 : lw_tbl[1296]? = some (Cond.code (mN 127) (mB 127) (mxl 127) (mR 127)) := rfl
set_option maxRecDepth 50000 in
theorem mcd128 : lw_tbl[1300]? = some (Cond.code (mN 128) (mB 128) (mxl 128) (mR 128)) := rfl
set_option maxRecDepth 50000 in
theorem mcd129 : lw_tbl[1308]? = some (Cond.code (mN 129) (mB 129) (mxl 129) (mR 129)) := rfl
set_option maxRecDepth 50000 in
theorem mcd130 : lw_tbl[1304]? = some (Cond.code (mN 130) (mB 130) (mxl 130) (mR 130)) := rfl
set_option maxRecDepth 50000 in
theorem mcd131 : lw_tbl[1316]? = some (Cond.code (mN 131) (mB 131) (mxl 131) (mR 131)) := rfl
set_option maxRecDepth 50000 in
theorem mcd132 : lw_tbl[1344]? = some (Cond.code (mN 132) (mB 132) (mxl 132) (mR 132)) := rfl
set_option maxRecDepth 50000 in
theorem mcd133 : lw_tbl[1365]? = some (Cond.code (mN 133) (mB 133) (mxl 133) (mR 133)) := rfl
set_option maxRecDepth 50000 in
theorem mcd134 : lw_tbl[1454]? = some (Cond.code (mN 134) (mB 134) (mxl 134) (mR 134)) := rfl
set_option maxRecDepth 50000 in
theorem mcd135 : lw_tbl[1293]? = some (Cond.code (mN 135) (mB 135) (mxl 135) (mR 135)) := rfl
set_option maxRecDepth 50000 in
theorem mcd136 : lw_tbl[1312]? = some (Cond.code (mN 136) (mB 136) (mxl 136) (mR 136)) := rfl
set_option maxRecDepth 50000 in
theorem mcd137 : lw_tbl[1320]? = some (Cond.code (mN 137) (mB 137) (mxl 137) (mR 137)) := rfl
set_option maxRecDepth 50000 in
theorem mcd138 : lw_tbl[1328]? = some (Cond.code (mN 138) (mB 138) (mxl 138) (mR 138)) := rfl
set_option maxRecDepth 50000 in
theorem mcd139 : lw_tbl[1324]? = some (Cond.code (mN 139) (mB 139) (mxl 139) (mR 139)) := rfl
set_option maxRecDepth 50000 in
theorem mcd140 : lw_tbl[1332]? = some (Cond.code (mN 140) (mB 140) (mxl 140) (mR 140)) := rfl
set_option maxRecDepth 50000 in
theorem mcd141 : lw_tbl[1336]? = some (Cond.code (mN 141) (mB 141) (mxl 141) (mR 141)) := rfl
set_option maxRecDepth 50000 in
theorem mcd142 : lw_tbl[1340]? = some (Cond.code (mN 142) (mB 142) (mxl 142) (mR 142)) := rfl
set_option maxRecDepth 50000 in
theorem mcd143 : lw_tbl[1348]? = some (Cond.code (mN 143) (mB 143) (mxl 143) (mR 143)) := rfl
set_option maxRecDepth 50000 in
theorem mcd144 : lw_tbl[1352]? = some (Cond.code (mN 144) (mB 144) (mxl 144) (mR 144)) := rfl
set_option maxRecDepth 50000 in
theorem mcd145 : lw_tbl[1356]? = some (Cond.code (mN 145) (mB 145) (mxl 145) (mR 145)) := rfl
set_option maxRecDepth 50000 in
theorem mcd146 : lw_tbl[1373]? = some (Cond.code (mN 146) (mB 146) (mxl 146) (mR 146)) := rfl
set_option maxRecDepth 50000 in
theorem mcd147 : lw_tbl[1376]? = some (Cond.code (mN 147) (mB 147) (mxl 147) (mR 147)) := rfl
set_option maxRecDepth 50000 in
theorem mcd148 : lw_tbl[1398]? = some (Cond.code (mN 148) (mB 148) (mxl 148) (mR 148)) := rfl
set_option maxRecDepth 50000 in
theorem mcd149 : lw_tbl[1395]? = some (Cond.code (mN 149) (mB 149) (mxl 149) (mR 149)) := rfl
set_option maxRecDepth 50000 in
theorem mcd150 : lw_tbl[1369]? = some (Cond.code (mN 150) (mB 150) (mxl 150) (mR 150)) := rfl
set_option maxRecDepth 50000 in
theorem mcd151 : lw_tbl[1402]? = some (Cond.code (mN 151) (mB 151) (mxl 151) (mR 151)) := rfl
set_option maxRecDepth 50000 in
theorem mcd152 : lw_tbl[1391]? = some (Cond.code (mN 152) (mB 152) (mxl 152) (mR 152)) := rfl
set_option maxRecDepth 50000 in
theorem mcd153 : lw_tbl[1388]? = some (Cond.code (mN 153) (mB 153) (mxl 153) (mR 153)) := rfl
set_option maxRecDepth 50000 in
theorem mcd154 : lw_tbl[1385]? = some (Cond.code (mN 154) (mB 154) (mxl 154) (mR 154)) := rfl
set_option maxRecDepth 50000 in
theorem mcd155 : lw_tbl[1380]? = some (Cond.code (mN 155) (mB 155) (mxl 155) (mR 155)) := rfl
set_option maxRecDepth 50000 in
theorem mcd156 : lw_tbl[1410]? = some (Cond.code (mN 156) (mB 156) (mxl 156) (mR 156)) := rfl
set_option maxRecDepth 50000 in
theorem mcd157 : lw_tbl[1431]? = some (Cond.code (mN 157) (mB 157) (mxl 157) (mR 157)) := rfl
set_option maxRecDepth 50000 in
theorem mcd158 : lw_tbl[1414]? = some (Cond.code (mN 158) (mB 158) (mxl 158) (mR 158)) := rfl
set_option maxRecDepth 50000 in
theorem mcd159 : lw_tbl[1427]? = some (Cond.code (mN 159) (mB 159) (mxl 159) (mR 159)) := rfl
set_option maxRecDepth 50000 in
theorem mcd160 : lw_tbl[1417]? = some (Cond.code (mN 160) (mB 160) (mxl 160) (mR 160)) := rfl
set_option maxRecDepth 50000 in
theorem mcd161 : lw_tbl[1420]? = some (Cond.code (mN 161) (mB 161) (mxl 161) (mR 161)) := rfl
set_option maxRecDepth 50000 in
theorem mcd162 : lw_tbl[1423]? = some (Cond.code (mN 162) (mB 162) (mxl 162) (mR 162)) := rfl
set_option maxRecDepth 50000 in
theorem mcd163 : lw_tbl[1435]? = some (Cond.code (mN 163) (mB 163) (mxl 163) (mR 163)) := rfl
set_option maxRecDepth 50000 in
theorem mcd164 : lw_tbl[1406]? = some (Cond.code (mN 164) (mB 164) (mxl 164) (mR 164)) := rfl
set_option maxRecDepth 50000 in
theorem mcd165 : lw_tbl[1361]? = some (Cond.code (mN 165) (mB 165) (mxl 165) (mR 165)) := rfl
set_option maxRecDepth 50000 in
theorem mcd166 : lw_tbl[1439]? = some (Cond.code (mN 166) (mB 166) (mxl 166) (mR 166)) := rfl
set_option maxRecDepth 50000 in
theorem mcd167 : lw_tbl[1451]? = some (Cond.code (mN 167) (mB 167) (mxl 167) (mR 167)) := rfl
set_option maxRecDepth 50000 in
theorem mcd168 : lw_tbl[1447]? = some (Cond.code (mN 168) (mB 168) (mxl 168) (mR 168)) := rfl
set_option maxRecDepth 50000 in
theorem mcd169 : lw_tbl[1470]? = some (Cond.code (mN 169) (mB 169) (mxl 169) (mR 169)) := rfl
set_option maxRecDepth 50000 in
theorem mcd170 : lw_tbl[1466]? = some (Cond.code (mN 170) (mB 170) (mxl 170) (mR 170)) := rfl
set_option maxRecDepth 50000 in
theorem mcd171 : lw_tbl[1474]? = some (Cond.code (mN 171) (mB 171) (mxl 171) (mR 171)) := rfl
set_option maxRecDepth 50000 in
theorem mcd172 : lw_tbl[1462]? = some (Cond.code (mN 172) (mB 172) (mxl 172) (mR 172)) := rfl
set_option maxRecDepth 50000 in
theorem mcd173 : lw_tbl[1458]? = some (Cond.code (mN 173) (mB 173) (mxl 173) (mR 173)) := rfl
set_option maxRecDepth 50000 in
theorem mcd174 : lw_tbl[1443]? = some (Cond.code (mN 174) (mB 174) (mxl 174) (mR 174)) := rfl
set_option maxRecDepth 50000 in
theorem mcd175 : lw_tbl[1478]? = some (Cond.code (mN 175) (mB 175) (mxl 175) (mR 175)) := rfl
set_option maxRecDepth 50000 in
theorem mcd176 : lw_tbl[1486]? = some (Cond.code (mN 176) (mB 176) (mxl 176) (mR 176)) := rfl
set_option maxRecDepth 50000 in
theorem mcd177 : lw_tbl[1482]? = some (Cond.code (mN 177) (mB 177) (mxl 177) (mR 177)) := rfl
set_option maxRecDepth 50000 in
theorem mcd178 : lw_tbl[1494]? = some (Cond.code (mN 178) (mB 178) (mxl 178) (mR 178)) := rfl
set_option maxRecDepth 50000 in
theorem mcd179 : lw_tbl[1490]? = some (Cond.code (mN 179) (mB 179) (mxl 179) (mR 179)) := rfl
set_option maxRecDepth 50000 in
theorem mcd180 : lw_tbl[1498]? = some (Cond.code (mN 180) (mB 180) (mxl 180) (mR 180)) := rfl
set_option maxRecDepth 50000 in
theorem mcd181 : lw_tbl[1514]? = some (Cond.code (mN 181) (mB 181) (mxl 181) (mR 181)) := rfl
set_option maxRecDepth 50000 in
theorem mcd182 : lw_tbl[1518]? = some (Cond.code (mN 182) (mB 182) (mxl 182) (mR 182)) := rfl
set_option maxRecDepth 50000 in
theorem mcd183 : lw_tbl[1510]? = some (Cond.code (mN 183) (mB 183) (mxl 183) (mR 183)) := rfl
set_option maxRecDepth 50000 in
theorem mcd184 : lw_tbl[1529]? = some (Cond.code (mN 184) (mB 184) (mxl 184) (mR 184)) := rfl
set_option maxRecDepth 50000 in
theorem mcd185 : lw_tbl[1526]? = some (Cond.code (mN 185) (mB 185) (mxl 185) (mR 185)) := rfl
set_option maxRecDepth 50000 in
theorem mcd186 : lw_tbl[1522]? = some (Cond.code (mN 186) (mB 186) (mxl 186) (mR 186)) := rfl
set_option maxRecDepth 50000 in
theorem mcd187 : lw_tbl[1537]? = some (Cond.code (mN 187) (mB 187) (mxl 187) (mR 187)) := rfl
set_option maxRecDepth 50000 in
theorem mcd188 : lw_tbl[1533]? = some (Cond.code (mN 188) (mB 188) (mxl 188) (mR 188)) := rfl
set_option maxRecDepth 50000 in
theorem mcd189 : lw_tbl[1506]? = some (Cond.code (mN 189) (mB 189) (mxl 189) (mR 189)) := rfl
set_option maxRecDepth 50000 in
theorem mcd190 : lw_tbl[1502]? = some (Cond.code (mN 190) (mB 190) (mxl 190) (mR 190)) := rfl
set_option maxRecDepth 50000 in
theorem mcd191 : lw_tbl[1541]? = some (Cond.code (mN 191) (mB 191) (mxl 191) (mR 191)) := rfl
set_option maxRecDepth 50000 in
theorem mcd192 : lw_tbl[1550]? = some (Cond.code (mN 192) (mB 192) (mxl 192) (mR 192)) := rfl
set_option maxRecDepth 50000 in
theorem mcd193 : lw_tbl[1545]? = some (Cond.code (mN 193) (mB 193) (mxl 193) (mR 193)) := rfl
set_option maxRecDepth 50000 in
theorem mcd194 : lw_tbl[1554]? = some (Cond.code (mN 194) (mB 194) (mxl 194) (mR 194)) := rfl
set_option maxRecDepth 50000 in
theorem mcd195 : lw_tbl[1558]? = some (Cond.code (mN 195) (mB 195) (mxl 195) (mR 195)) := rfl
set_option maxRecDepth 50000 in
theorem mcd196 : lw_tbl[1562]? = some (Cond.code (mN 196) (mB 196) (mxl 196) (mR 196)) := rfl
set_option maxRecDepth 50000 in
theorem mcd197 : lw_tbl[1566]? = some (Cond.code (mN 197) (mB 197) (mxl 197) (mR 197)) := rfl
set_option maxRecDepth 50000 in
theorem mcd198 : lw_tbl[1570]? = some (Cond.code (mN 198) (mB 198) (mxl 198) (mR 198)) := rfl
set_option maxRecDepth 50000 in
theorem mcd199 : lw_tbl[1578]? = some (Cond.code (mN 199) (mB 199) (mxl 199) (mR 199)) := rfl
set_option maxRecDepth 50000 in
theorem mcd200 : lw_tbl[1574]? = some (Cond.code (mN 200) (mB 200) (mxl 200) (mR 200)) := rfl
set_option maxRecDepth 50000 in
theorem mcd201 : lw_tbl[1586]? = some (Cond.code (mN 201) (mB 201) (mxl 201) (mR 201)) := rfl
set_option maxRecDepth 50000 in
theorem mcd202 : lw_tbl[1582]? = some (Cond.code (mN 202) (mB 202) (mxl 202) (mR 202)) := rfl
set_option maxRecDepth 50000 in
theorem mcd203 : lw_tbl[1598]? = some (Cond.code (mN 203) (mB 203) (mxl 203) (mR 203)) := rfl
set_option maxRecDepth 50000 in
theorem mcd204 : lw_tbl[1602]? = some (Cond.code (mN 204) (mB 204) (mxl 204) (mR 204)) := rfl
set_option maxRecDepth 50000 in
theorem mcd205 : lw_tbl[1594]? = some (Cond.code (mN 205) (mB 205) (mxl 205) (mR 205)) := rfl
set_option maxRecDepth 50000 in
theorem mcd206 : lw_tbl[1614]? = some (Cond.code (mN 206) (mB 206) (mxl 206) (mR 206)) := rfl
set_option maxRecDepth 50000 in
theorem mcd207 : lw_tbl[1610]? = some (Cond.code (mN 207) (mB 207) (mxl 207) (mR 207)) := rfl
set_option maxRecDepth 50000 in
theorem mcd208 : lw_tbl[1606]? = some (Cond.code (mN 208) (mB 208) (mxl 208) (mR 208)) := rfl
set_option maxRecDepth 50000 in
theorem mcd209 : lw_tbl[1618]? = some (Cond.code (mN 209) (mB 209) (mxl 209) (mR 209)) := rfl
set_option maxRecDepth 50000 in
theorem mcd210 : lw_tbl[1626]? = some (Cond.code (mN 210) (mB 210) (mxl 210) (mR 210)) := rfl
set_option maxRecDepth 50000 in
theorem mcd211 : lw_tbl[1622]? = some (Cond.code (mN 211) (mB 211) (mxl 211) (mR 211)) := rfl
set_option maxRecDepth 50000 in
theorem mcd212 : lw_tbl[1590]? = some (Cond.code (mN 212) (mB 212) (mxl 212) (mR 212)) := rfl
set_option maxRecDepth 50000 in
theorem mcd213 : lw_tbl[1630]? = some (Cond.code (mN 213) (mB 213) (mxl 213) (mR 213)) := rfl
set_option maxRecDepth 50000 in
theorem mcd214 : lw_tbl[1634]? = some (Cond.code (mN 214) (mB 214) (mxl 214) (mR 214)) := rfl
set_option maxRecDepth 50000 in
theorem mcd215 : lw_tbl[1638]? = some (Cond.code (mN 215) (mB 215) (mxl 215) (mR 215)) := rfl
set_option maxRecDepth 50000 in
theorem mcd216 : lw_tbl[1642]? = some (Cond.code (mN 216) (mB 216) (mxl 216) (mR 216)) := rfl
set_option maxRecDepth 50000 in
theorem mcd217 : lw_tbl[1649]? = some (Cond.code (mN 217) (mB 217) (mxl 217) (mR 217)) := rfl
set_option maxRecDepth 50000 in
theorem mcd218 : lw_tbl[1653]? = some (Cond.code (mN 218) (mB 218) (mxl 218) (mR 218)) := rfl
set_option maxRecDepth 50000 in
theorem mcd219 : lw_tbl[1657]? = some (Cond.code (mN 219) (mB 219) (mxl 219) (mR 219)) := rfl
set_option maxRecDepth 50000 in
theorem mcd220 : lw_tbl[1646]? = some (Cond.code (mN 220) (mB 220) (mxl 220) (mR 220)) := rfl
set_option maxRecDepth 50000 in
theorem mcd221 : lw_tbl[1661]? = some (Cond.code (mN 221) (mB 221) (mxl 221) (mR 221)) := rfl
set_option maxRecDepth 50000 in
theorem mcd222 : lw_tbl[1055]? = some (Cond.code (mN 222) (mB 222) (mxl 222) (mR 222)) := rfl
set_option maxRecDepth 50000 in
theorem mcd223 : lw_tbl[482]? = some (Cond.code (mN 223) (mB 223) (mxl 223) (mR 223)) := rfl
set_option maxRecDepth 50000 in
theorem mcd224 : lw_tbl[467]? = some (Cond.code (mN 224) (mB 224) (mxl 224) (mR 224)) := rfl
set_option maxRecDepth 50000 in
theorem mcd225 : lw_tbl[498]? = some (Cond.code (mN 225) (mB 225) (mxl 225) (mR 225)) := rfl
set_option maxRecDepth 50000 in
theorem mcd226 : lw_tbl[820]? = some (Cond.code (mN 226) (mB 226) (mxl 226) (mR 226)) := rfl
set_option maxRecDepth 50000 in
theorem mcd227 : lw_tbl[830]? = some (Cond.code (mN 227) (mB 227) (mxl 227) (mR 227)) := rfl
set_option maxRecDepth 50000 in
theorem mcd228 : lw_tbl[824]? = some (Cond.code (mN 228) (mB 228) (mxl 228) (mR 228)) := rfl
set_option maxRecDepth 50000 in
theorem mcd229 : lw_tbl[834]? = some (Cond.code (mN 229) (mB 229) (mxl 229) (mR 229)) := rfl
set_option maxRecDepth 50000 in
theorem mcd230 : lw_tbl[840]? = some (Cond.code (mN 230) (mB 230) (mxl 230) (mR 230)) := rfl
set_option maxRecDepth 50000 in
theorem mcd231 : lw_tbl[837]? = some (Cond.code (mN 231) (mB 231) (mxl 231) (mR 231)) := rfl
set_option maxRecDepth 50000 in
theorem mcd232 : lw_tbl[506]? = some (Cond.code (mN 232) (mB 232) (mxl 232) (mR 232)) := rfl
set_option maxRecDepth 50000 in
theorem mcd233 : lw_tbl[280]? = some (Cond.code (mN 233) (mB 233) (mxl 233) (mR 233)) := rfl
set_option maxRecDepth 50000 in
theorem mcd234 : lw_tbl[503]? = some (Cond.code (mN 234) (mB 234) (mxl 234) (mR 234)) := rfl
set_option maxRecDepth 50000 in
theorem mcd235 : lw_tbl[845]? = some (Cond.code (mN 235) (mB 235) (mxl 235) (mR 235)) := rfl
theorem code_in : ∀ y, y < 236 → Cond.code (mN y) (mB y) (mxl y) (mR y) ∈ gw := by
  intro y hy
  match y, hy with
  | 0, _ => exact List.mem_filter.mpr ⟨List.mem_of_getElem? mcd0, rfl⟩
  | 1, _ => exact List.mem_filter.mpr ⟨List.mem_of_getElem? mcd1, rfl⟩
  | 2, _ => exact List.mem_filter.mpr ⟨List.mem_of_getElem? mcd2, rfl⟩
  | 3, _ => exact List.mem_filter.mpr ⟨List.mem_of_getElem? mcd3, rfl⟩
  | 4, _ => exact List.mem_filter.mpr ⟨List.mem_of_getElem? mcd4, rfl⟩
  | 5, _ => exact List.mem_filter.mpr ⟨List.mem_of_getElem? mcd5, rfl⟩
  | 6, _ => exact List.mem_filter.mpr ⟨List.mem_of_getElem? mcd6, rfl⟩
  | 7, _ => exact List.mem_filter.mpr ⟨List.mem_of_getElem? mcd7, rfl⟩
  | 8, _ => exact List.mem_filter.mpr ⟨List.mem_of_getElem? mcd8, rfl⟩
  | 9, _ => exact List.mem_filter.mpr ⟨List.mem_of_getElem? mcd9, rfl⟩
  | 10, _ => exact List.mem_filter.mpr ⟨List.mem_of_getElem? mcd10, rfl⟩
  | 11, _ => exact List.mem_filter.mpr ⟨List.mem_of_getElem? mcd11, rfl⟩
  | 12, _ => exact List.mem_filter.mpr ⟨List.mem_of_getElem? mcd12, rfl⟩
  | 13, _ => exact List.mem_filter.mpr ⟨List.mem_of_getElem? mcd13, rfl⟩
  | 14, _ => exact List.mem_filter.mpr ⟨List.mem_of_getElem? mcd14, rfl⟩
  | 15, _ => exact List.mem_filter.mpr ⟨List.mem_of_getElem? mcd15, rfl⟩
  | 16, _ => exact List.mem_filter.mpr ⟨List.mem_of_getElem? mcd16, rfl⟩
  | 17, _ => exact List.mem_filter.mpr ⟨List.mem_of_getElem? mcd17, rfl⟩
  | 18, _ => exact List.mem_filter.mpr ⟨List.mem_of_getElem? mcd18, rfl⟩
  | 19, _ => exact List.mem_filter.mpr ⟨List.mem_of_getElem? mcd19, rfl⟩
  | 20, _ => exact List.mem_filter.mpr ⟨List.mem_of_getElem? mcd20, rfl⟩
  | 21, _ => exact List.mem_filter.mpr ⟨List.mem_of_getElem? mcd21, rfl⟩
  | 22, _ => exact List.mem_filter.mpr ⟨List.mem_of_getElem? mcd22, rfl⟩
  | 23, _ => exact List.mem_filter.mpr ⟨List.mem_of_getElem? mcd23, rfl⟩
  | 24, _ => exact List.mem_filter.mpr ⟨List.mem_of_getElem? mcd24, rfl⟩
  | 25, _ => exact List.mem_filter.mpr ⟨List.mem_of_getElem? mcd25, rfl⟩
  | 26, _ => exact List.mem_filter.mpr ⟨List.mem_of_getElem? mcd26, rfl⟩
  | 27, _ => exact List.mem_filter.mpr ⟨List.mem_of_getElem? mcd27, rfl⟩
  | 28, _ => exact List.mem_filter.mpr ⟨List.mem_of_getElem? mcd28, rfl⟩
  | 29, _ => exact List.mem_filter.mpr ⟨List.mem_of_getElem? mcd29, rfl⟩
  | 30, _ => exact List.mem_filter.mpr ⟨List.mem_of_getElem? mcd30, rfl⟩
  | 31, _ => exact List.mem_filter.mpr ⟨List.mem_of_getElem? mcd31, rfl⟩
  | 32, _ => exact List.mem_filter.mpr ⟨List.mem_of_getElem? mcd32, rfl⟩
  | 33, _ => exact List.mem_filter.mpr ⟨List.mem_of_getElem? mcd33, rfl⟩
  | 34, _ => exact List.mem_filter.mpr ⟨List.mem_of_getElem? mcd34, rfl⟩
  | 35, _ => exact List.mem_filter.mpr ⟨List.mem_of_getElem? mcd35, rfl⟩
  | 36, _ => exact List.mem_filter.mpr ⟨List.mem_of_getElem? mcd36, rfl⟩
  | 37, _ => exact List.mem_filter.mpr ⟨List.mem_of_getElem? mcd37, rfl⟩
  | 38, _ => exact List.mem_filter.mpr ⟨List.mem_of_getElem? mcd38, rfl⟩
  | 39, _ => exact List.mem_filter.mpr ⟨List.mem_of_getElem? mcd39, rfl⟩
  | 40, _ => exact List.mem_filter.mpr ⟨List.mem_of_getElem? mcd40, rfl⟩
  | 41, _ => exact List.mem_filter.mpr ⟨List.mem_of_getElem? mcd41, rfl⟩
  | 42, _ => exact List.mem_filter.mpr ⟨List.mem_of_getElem? mcd42, rfl⟩
  | 43, _ => exact List.mem_filter.mpr ⟨List.mem_of_getElem? mcd43, rfl⟩
  | 44, _ => exact List.mem_filter.mpr ⟨List.mem_of_getElem? mcd44, rfl⟩
  | 45, _ => exact List.mem_filter.mpr ⟨List.mem_of_getElem? mcd45, rfl⟩
  | 46, _ => exact List.mem_filter.mpr ⟨List.mem_of_getElem? mcd46, rfl⟩
  | 47, _ => exact List.mem_filter.mpr ⟨List.mem_of_getElem? mcd47, rfl⟩
  | 48, _ => exact List.mem_filter.mpr ⟨List.mem_of_getElem? mcd48, rfl⟩
  | 49, _ => exact List.mem_filter.mpr ⟨List.mem_of_getElem? mcd49, rfl⟩
  | 50, _ => exact List.mem_filter.mpr ⟨List.mem_of_getElem? mcd50, rfl⟩
  | 51, _ => exact List.mem_filter.mpr ⟨List.mem_of_getElem? mcd51, rfl⟩
  | 52, _ => exact List.mem_filter.mpr ⟨List.mem_of_getElem? mcd52, rfl⟩
  | 53, _ => exact List.mem_filter.mpr ⟨List.mem_of_getElem? mcd53, rfl⟩
  | 54, _ => exact List.mem_filter.mpr ⟨List.mem_of_getElem? mcd54, rfl⟩
  | 55, _ => exact List.mem_filter.mpr ⟨List.mem_of_getElem? mcd55, rfl⟩
  | 56, _ => exact List.mem_filter.mpr ⟨List.mem_of_getElem? mcd56, rfl⟩
  | 57, _ => exact List.mem_filter.mpr ⟨List.mem_of_getElem? mcd57, rfl⟩
  | 58, _ => exact List.mem_filter.mpr ⟨List.mem_of_getElem? mcd58, rfl⟩
  | 59, _ => exact List.mem_filter.mpr ⟨List.mem_of_getElem? mcd59, rfl⟩
  | 60, _ => exact List.mem_filter.mpr ⟨List.mem_of_getElem? mcd60, rfl⟩
  | 61, _ => exact List.mem_filter.mpr ⟨List.mem_of_getElem? mcd61, rfl⟩
  | 62, _ => exact List.mem_filter.mpr ⟨List.mem_of_getElem? mcd62, rfl⟩
  | 63, _ => exact List.mem_filter.mpr ⟨List.mem_of_getElem? mcd63, rfl⟩
  | 64, _ => exact List.mem_filter.mpr ⟨List.mem_of_getElem? mcd64, rfl⟩
  | 65, _ => exact List.mem_filter.mpr ⟨List.mem_of_getElem? mcd65, rfl⟩
  | 66, _ => exact List.mem_filter.mpr ⟨List.mem_of_getElem? mcd66, rfl⟩
  | 67, _ => exact List.mem_filter.mpr ⟨List.mem_of_getElem? mcd67, rfl⟩
  | 68, _ => exact List.mem_filter.mpr ⟨List.mem_of_getElem? mcd68, rfl⟩
  | 69, _ => exact List.mem_filter.mpr ⟨List.mem_of_getElem? mcd69, rfl⟩
  | 70, _ => exact List.mem_filter.mpr ⟨List.mem_of_getElem? mcd70, rfl⟩
  | 71, _ => exact List.mem_filter.mpr ⟨List.mem_of_getElem? mcd71, rfl⟩
  | 72, _ => exact List.mem_filter.mpr ⟨List.mem_of_getElem? mcd72, rfl⟩
  | 73, _ => exact List.mem_filter.mpr ⟨List.mem_of_getElem? mcd73, rfl⟩
  | 74, _ => exact List.mem_filter.mpr ⟨List.mem_of_getElem? mcd74, rfl⟩
  | 75, _ => exact List.mem_filter.mpr ⟨List.mem_of_getElem? mcd75, rfl⟩
  | 76, _ => exact List.mem_filter.mpr ⟨List.mem_of_getElem? mcd76, rfl⟩
  | 77, _ => exact List.mem_filter.mpr ⟨List.mem_of_getElem? mcd77, rfl⟩
  | 78, _ => exact List.mem_filter.mpr ⟨List.mem_of_getElem? mcd78, rfl⟩
  | 79, _ => exact List.mem_filter.mpr ⟨List.mem_of_getElem? mcd79, rfl⟩
  | 80, _ => exact List.mem_filter.mpr ⟨List.mem_of_getElem? mcd80, rfl⟩
  | 81, _ => exact List.mem_filter.mpr ⟨List.mem_of_getElem? mcd81, rfl⟩
  | 82, _ => exact List.mem_filter.mpr ⟨List.mem_of_getElem? mcd82, rfl⟩
  | 83, _ => exact List.mem_filter.mpr ⟨List.mem_of_getElem? mcd83, rfl⟩
  | 84, _ => exact List.mem_filter.mpr ⟨List.mem_of_getElem? mcd84, rfl⟩
  | 85, _ => exact List.mem_filter.mpr ⟨List.mem_of_getElem? mcd85, rfl⟩
  | 86, _ => exact List.mem_filter.mpr ⟨List.mem_of_getElem? mcd86, rfl⟩
  | 87, _ => exact List.mem_filter.mpr ⟨List.mem_of_getElem? mcd87, rfl⟩
  | 88, _ => exact List.mem_filter.mpr ⟨List.mem_of_getElem? mcd88, rfl⟩
  | 89, _ => exact List.mem_filter.mpr ⟨List.mem_of_getElem? mcd89, rfl⟩
  | 90, _ => exact List.mem_filter.mpr ⟨List.mem_of_getElem? mcd90, rfl⟩
  | 91, _ => exact List.mem_filter.mpr ⟨List.mem_of_getElem? mcd91, rfl⟩
  | 92, _ => exact List.mem_filter.mpr ⟨List.mem_of_getElem? mcd92, rfl⟩
  | 93, _ => exact List.mem_filter.mpr ⟨List.mem_of_getElem? mcd93, rfl⟩
  | 94, _ => exact List.mem_filter.mpr ⟨List.mem_of_getElem? mcd94, rfl⟩
  | 95, _ => exact List.mem_filter.mpr ⟨List.mem_of_getElem? mcd95, rfl⟩
  | 96, _ => exact List.mem_filter.mpr ⟨List.mem_of_getElem? mcd96, rfl⟩
  | 97, _ => exact List.mem_filter.mpr ⟨List.mem_of_getElem? mcd97, rfl⟩
  | 98, _ => exact List.mem_filter.mpr ⟨List.mem_of_getElem? mcd98, rfl⟩
  | 99, _ => exact List.mem_filter.mpr ⟨List.mem_of_getElem? mcd99, rfl⟩
  | 100, _ => exact List.mem_filter.mpr ⟨List.mem_of_getElem? mcd100, rfl⟩
  | 101, _ => exact List.mem_filter.mpr ⟨List.mem_of_getElem? mcd101, rfl⟩
  | 102, _ => exact List.mem_filter.mpr ⟨List.mem_of_getElem? mcd102, rfl⟩
  | 103, _ => exact List.mem_filter.mpr ⟨List.mem_of_getElem? mcd103, rfl⟩
  | 104, _ => exact List.mem_filter.mpr ⟨List.mem_of_getElem? mcd104, rfl⟩
  | 105, _ => exact List.mem_filter.mpr ⟨List.mem_of_getElem? mcd105, rfl⟩
  | 106, _ => exact List.mem_filter.mpr ⟨List.mem_of_getElem? mcd106, rfl⟩
  | 107, _ => exact List.mem_filter.mpr ⟨List.mem_of_getElem? mcd107, rfl⟩
  | 108, _ => exact List.mem_filter.mpr ⟨List.mem_of_getElem? mcd108, rfl⟩
  | 109, _ => exact List.mem_filter.mpr ⟨List.mem_of_getElem? mcd109, rfl⟩
  | 110, _ => exact List.mem_filter.mpr ⟨List.mem_of_getElem? mcd110, rfl⟩
  | 111, _ => exact List.mem_filter.mpr ⟨List.mem_of_getElem? mcd111, rfl⟩
  | 112, _ => exact List.mem_filter.mpr ⟨List.mem_of_getElem? mcd112, rfl⟩
  | 113, _ => exact List.mem_filter.mpr ⟨List.mem_of_getElem? mcd113, rfl⟩
  | 114, _ => exact List.mem_filter.mpr ⟨List.mem_of_getElem? mcd114, rfl⟩
  | 115, _ => exact List.mem_filter.mpr ⟨List.mem_of_getElem? mcd115, rfl⟩
  | 116, _ => exact List.mem_filter.mpr ⟨List.mem_of_getElem? mcd116, rfl⟩
  | 117, _ => exact List.mem_filter.mpr ⟨List.mem_of_getElem? mcd117, rfl⟩
  | 118, _ => exact List.mem_filter.mpr ⟨List.mem_of_getElem? mcd118, rfl⟩
  | 119, _ => exact List.mem_filter.mpr ⟨List.mem_of_getElem? mcd119, rfl⟩
  | 120, _ => exact List.mem_filter.mpr ⟨List.mem_of_getElem? mcd120, rfl⟩
  | 121, _ => exact List.mem_filter.mpr ⟨List.mem_of_getElem? mcd121, rfl⟩
  | 122, _ => exact List.mem_filter.mpr ⟨List.mem_of_getElem? mcd122, rfl⟩
  | 123, _ => exact List.mem_filter.mpr ⟨List.mem_of_getElem? mcd123, rfl⟩
  | 124, _ => exact List.mem_filter.mpr ⟨List.mem_of_getElem? mcd124, rfl⟩
  | 125, _ => exact List.mem_filter.mpr ⟨List.mem_of_getElem? mcd125, rfl⟩
  | 126, _ => exact List.mem_filter.mpr ⟨List.mem_of_getElem? mcd126, rfl⟩
  | 127, _ => exact List.mem_filter.mpr ⟨List.mem_of_getElem? mcd127, rfl⟩
  | 128, _ => exact List.mem_filter.mpr ⟨List.mem_of_getElem? mcd128, rfl⟩
  | 129, _ => exact List.mem_filter.mpr ⟨List.mem_of_getElem? mcd129, rfl⟩
  | 130, _ => exact List.mem_filter.mpr ⟨List.mem_of_getElem? mcd130, rfl⟩
  | 131, _ => exact List.mem_filter.mpr ⟨List.mem_of_getElem? mcd131, rfl⟩
  | 132, _ => exact List.mem_filter.mpr ⟨List.mem_of_getElem? mcd132, rfl⟩
  | 133, _ => exact List.mem_filter.mpr ⟨List.mem_of_getElem? mcd133, rfl⟩
  | 134, _ => exact List.mem_filter.mpr ⟨List.mem_of_getElem? mcd134, rfl⟩
  | 135, _ => exact List.mem_filter.mpr ⟨List.mem_of_getElem? mcd135, rfl⟩
  | 136, _ => exact List.mem_filter.mpr ⟨List.mem_of_getElem? mcd136, rfl⟩
  | 137, _ => exact List.mem_filter.mpr ⟨List.mem_of_getElem? mcd137, rfl⟩
  | 138, _ => exact List.mem_filter.mpr ⟨List.mem_of_getElem? mcd138, rfl⟩
  | 139, _ => exact List.mem_filter.mpr ⟨List.mem_of_getElem? mcd139, rfl⟩
  | 140, _ => exact List.mem_filter.mpr ⟨List.mem_of_getElem? mcd140, rfl⟩
  | 141, _ => exact List.mem_filter.mpr ⟨List.mem_of_getElem? mcd141, rfl⟩
  | 142, _ => exact List.mem_filter.mpr ⟨List.mem_of_getElem? mcd142, rfl⟩
  | 143, _ => exact List.mem_filter.mpr ⟨List.mem_of_getElem? mcd143, rfl⟩
  | 144, _ => exact List.mem_filter.mpr ⟨List.mem_of_getElem? mcd144, rfl⟩
  | 145, _ => exact List.mem_filter.mpr ⟨List.mem_of_getElem? mcd145, rfl⟩
  | 146, _ => exact List.mem_filter.mpr ⟨List.mem_of_getElem? mcd146, rfl⟩
  | 147, _ => exact List.mem_filter.mpr ⟨List.mem_of_getElem? mcd147, rfl⟩
  | 148, _ => exact List.mem_filter.mpr ⟨List.mem_of_getElem? mcd148, rfl⟩
  | 149, _ => exact List.mem_filter.mpr ⟨List.mem_of_getElem? mcd149, rfl⟩
  | 150, _ => exact List.mem_filter.mpr ⟨List.mem_of_getElem? mcd150, rfl⟩
  | 151, _ => exact List.mem_filter.mpr ⟨List.mem_of_getElem? mcd151, rfl⟩
  | 152, _ => exact List.mem_filter.mpr ⟨List.mem_of_getElem? mcd152, rfl⟩
  | 153, _ => exact List.mem_filter.mpr ⟨List.mem_of_getElem? mcd153, rfl⟩
  | 154, _ => exact List.mem_filter.mpr ⟨List.mem_of_getElem? mcd154, rfl⟩
  | 155, _ => exact List.mem_filter.mpr ⟨List.mem_of_getElem? mcd155, rfl⟩
  | 156, _ => exact List.mem_filter.mpr ⟨List.mem_of_getElem? mcd156, rfl⟩
  | 157, _ => exact List.mem_filter.mpr ⟨List.mem_of_getElem? mcd157, rfl⟩
  | 158, _ => exact List.mem_filter.mpr ⟨List.mem_of_getElem? mcd158, rfl⟩
  | 159, _ => exact List.mem_filter.mpr ⟨List.mem_of_getElem? mcd159, rfl⟩
  | 160, _ => exact List.mem_filter.mpr ⟨List.mem_of_getElem? mcd160, rfl⟩
  | 161, _ => exact List.mem_filter.mpr ⟨List.mem_of_getElem? mcd161, rfl⟩
  | 162, _ => exact List.mem_filter.mpr ⟨List.mem_of_getElem? mcd162, rfl⟩
  | 163, _ => exact List.mem_filter.mpr ⟨List.mem_of_getElem? mcd163, rfl⟩
  | 164, _ => exact List.mem_filter.mpr ⟨List.mem_of_getElem? mcd164, rfl⟩
  | 165, _ => exact List.mem_filter.mpr ⟨List.mem_of_getElem? mcd165, rfl⟩
  | 166, _ => exact List.mem_filter.mpr ⟨List.mem_of_getElem? mcd166, rfl⟩
  | 167, _ => exact List.mem_filter.mpr ⟨List.mem_of_getElem? mcd167, rfl⟩
  | 168, _ => exact List.mem_filter.mpr ⟨List.mem_of_getElem? mcd168, rfl⟩
  | 169, _ => exact List.mem_filter.mpr ⟨List.mem_of_getElem? mcd169, rfl⟩
  | 170, _ => exact List.mem_filter.mpr ⟨List.mem_of_getElem? mcd170, rfl⟩
  | 171, _ => exact List.mem_filter.mpr ⟨List.mem_of_getElem? mcd171, rfl⟩
  | 172, _ => exact List.mem_filter.mpr ⟨List.mem_of_getElem? mcd172, rfl⟩
  | 173, _ => exact List.mem_filter.mpr ⟨List.mem_of_getElem? mcd173, rfl⟩
  | 174, _ => exact List.mem_filter.mpr ⟨List.mem_of_getElem? mcd174, rfl⟩
  | 175, _ => exact List.mem_filter.mpr ⟨List.mem_of_getElem? mcd175, rfl⟩
  | 176, _ => exact List.mem_filter.mpr ⟨List.mem_of_getElem? mcd176, rfl⟩
  | 177, _ => exact List.mem_filter.mpr ⟨List.mem_of_getElem? mcd177, rfl⟩
  | 178, _ => exact List.mem_filter.mpr ⟨List.mem_of_getElem? mcd178, rfl⟩
  | 179, _ => exact List.mem_filter.mpr ⟨List.mem_of_getElem? mcd179, rfl⟩
  | 180, _ => exact List.mem_filter.mpr ⟨List.mem_of_getElem? mcd180, rfl⟩
  | 181, _ => exact List.mem_filter.mpr ⟨List.mem_of_getElem? mcd181, rfl⟩
  | 182, _ => exact List.mem_filter.mpr ⟨List.mem_of_getElem? mcd182, rfl⟩
  | 183, _ => exact List.mem_filter.mpr ⟨List.mem_of_getElem? mcd183, rfl⟩
  | 184, _ => exact List.mem_filter.mpr ⟨List.mem_of_getElem? mcd184, rfl⟩
  | 185, _ => exact List.mem_filter.mpr ⟨List.mem_of_getElem? mcd185, rfl⟩
  | 186, _ => exact List.mem_filter.mpr ⟨List.mem_of_getElem? mcd186, rfl⟩
  | 187, _ => exact List.mem_filter.mpr ⟨List.mem_of_getElem? mcd187, rfl⟩
  | 188, _ => exact List.mem_filter.mpr ⟨List.mem_of_getElem? mcd188, rfl⟩
  | 189, _ => exact List.mem_filter.mpr ⟨List.mem_of_getElem? mcd189, rfl⟩
  | 190, _ => exact List.mem_filter.mpr ⟨List.mem_of_getElem? mcd190, rfl⟩
  | 191, _ => exact List.mem_filter.mpr ⟨List.mem_of_getElem? mcd191, rfl⟩
  | 192, _ => exact List.mem_filter.mpr ⟨List.mem_of_getElem? mcd192, rfl⟩
  | 193, _ => exact List.mem_filter.mpr ⟨List.mem_of_getElem? mcd193, rfl⟩
  | 194, _ => exact List.mem_filter.mpr ⟨List.mem_of_getElem? mcd194, rfl⟩
  | 195, _ => exact List.mem_filter.mpr ⟨List.mem_of_getElem? mcd195, rfl⟩
  | 196, _ => exact List.mem_filter.mpr ⟨List.mem_of_getElem? mcd196, rfl⟩
  | 197, _ => exact List.mem_filter.mpr ⟨List.mem_of_getElem? mcd197, rfl⟩
  | 198, _ => exact List.mem_filter.mpr ⟨List.mem_of_getElem? mcd198, rfl⟩
  | 199, _ => exact List.mem_filter.mpr ⟨List.mem_of_getElem? mcd199, rfl⟩
  | 200, _ => exact List.mem_filter.mpr ⟨List.mem_of_getElem? mcd200, rfl⟩
  | 201, _ => exact List.mem_filter.mpr ⟨List.mem_of_getElem? mcd201, rfl⟩
  | 202, _ => exact List.mem_filter.mpr ⟨List.mem_of_getElem? mcd202, rfl⟩
  | 203, _ => exact List.mem_filter.mpr ⟨List.mem_of_getElem? mcd203, rfl⟩
  | 204, _ => exact List.mem_filter.mpr ⟨List.mem_of_getElem? mcd204, rfl⟩
  | 205, _ => exact List.mem_filter.mpr ⟨List.mem_of_getElem? mcd205, rfl⟩
  | 206, _ => exact List.mem_filter.mpr ⟨List.mem_of_getElem? mcd206, rfl⟩
  | 207, _ => exact List.mem_filter.mpr ⟨List.mem_of_getElem? mcd207, rfl⟩
  | 208, _ => exact List.mem_filter.mpr ⟨List.mem_of_getElem? mcd208, rfl⟩
  | 209, _ => exact List.mem_filter.mpr ⟨List.mem_of_getElem? mcd209, rfl⟩
  | 210, _ => exact List.mem_filter.mpr ⟨List.mem_of_getElem? mcd210, rfl⟩
  | 211, _ => exact List.mem_filter.mpr ⟨List.mem_of_getElem? mcd211, rfl⟩
  | 212, _ => exact List.mem_filter.mpr ⟨List.mem_of_getElem? mcd212, rfl⟩
  | 213, _ => exact List.mem_filter.mpr ⟨List.mem_of_getElem? mcd213, rfl⟩
  | 214, _ => exact List.mem_filter.mpr ⟨List.mem_of_getElem? mcd214, rfl⟩
  | 215, _ => exact List.mem_filter.mpr ⟨List.mem_of_getElem? mcd215, rfl⟩
  | 216, _ => exact List.mem_filter.mpr ⟨List.mem_of_getElem? mcd216, rfl⟩
  | 217, _ => exact List.mem_filter.mpr ⟨List.mem_of_getElem? mcd217, rfl⟩
  | 218, _ => exact List.mem_filter.mpr ⟨List.mem_of_getElem? mcd218, rfl⟩
  | 219, _ => exact List.mem_filter.mpr ⟨List.mem_of_getElem? mcd219, rfl⟩
  | 220, _ => exact List.mem_filter.mpr ⟨List.mem_of_getElem? mcd220, rfl⟩
  | 221, _ => exact List.mem_filter.mpr ⟨List.mem_of_getElem? mcd221, rfl⟩
  | 222, _ => exact List.mem_filter.mpr ⟨List.mem_of_getElem? mcd222, rfl⟩
  | 223, _ => exact List.mem_filter.mpr ⟨List.mem_of_getElem? mcd223, rfl⟩
  | 224, _ => exact List.mem_filter.mpr ⟨List.mem_of_getElem? mcd224, rfl⟩
  | 225, _ => exact List.mem_filter.mpr ⟨List.mem_of_getElem? mcd225, rfl⟩
  | 226, _ => exact List.mem_filter.mpr ⟨List.mem_of_getElem? mcd226, rfl⟩
  | 227, _ => exact List.mem_filter.mpr ⟨List.mem_of_getElem? mcd227, rfl⟩
  | 228, _ => exact List.mem_filter.mpr ⟨List.mem_of_getElem? mcd228, rfl⟩
  | 229, _ => exact List.mem_filter.mpr ⟨List.mem_of_getElem? mcd229, rfl⟩
  | 230, _ => exact List.mem_filter.mpr ⟨List.mem_of_getElem? mcd230, rfl⟩
  | 231, _ => exact List.mem_filter.mpr ⟨List.mem_of_getElem? mcd231, rfl⟩
  | 232, _ => exact List.mem_filter.mpr ⟨List.mem_of_getElem? mcd232, rfl⟩
  | 233, _ => exact List.mem_filter.mpr ⟨List.mem_of_getElem? mcd233, rfl⟩
  | 234, _ => exact List.mem_filter.mpr ⟨List.mem_of_getElem? mcd234, rfl⟩
  | 235, _ => exact List.mem_filter.mpr ⟨List.mem_of_getElem? mcd235, rfl⟩
  | n + 236, h => exact absurd h (by omega)
def mck (y : Nat) : Bool := wd ((mP y).getD 3 0) (.initialized (mN y).cls) && (if isStat y then wd ((mP y).getD 2 0) (.static (mN y)) else wd ((mP y).getD 2 0) (.instanceMethod (mN y))) && (decide ((mP y).getD 4 9999 = 9999) || wd ((mP y).getD 4 9999) (.selects (mN y).cls (mN y) (mN y))) && plainFor (mN y) && decide ((mN y).cls ≠ "java/lang/invoke/MethodHandle") && decide ((mN y).cls ≠ "java/lang/invoke/VarHandle") && decide (mxl y ≤ 60) && decide ((mth y).1 ≠ [])
theorem mck_1 : ∀ y, y < 60 → mck y = true := by decide +kernel
theorem mck_2 : ∀ y, y < 60 → mck (60 + y) = true := by decide +kernel
theorem mck_3 : ∀ y, y < 60 → mck (120 + y) = true := by decide +kernel
theorem mck_4 : ∀ y, y < 56 → mck (180 + y) = true := by decide +kernel
theorem mck_a : ∀ y, y < nMeth - 1 → mck y = true := by
  intro y hy
  have hy : y < 236 := hy
  rcases Nat.lt_or_ge y 60 with h | h
  · exact mck_1 y h
  · rcases Nat.lt_or_ge y 120 with h2 | h2
    · have := mck_2 (y - 60) (by omega)
      rwa [show 60 + (y - 60) = y by omega] at this
    · rcases Nat.lt_or_ge y 180 with h3 | h3
      · have := mck_3 (y - 120) (by omega)
        rwa [show 120 + (y - 120) = y by omega] at this
      · have := mck_4 (y - 180) (by omega)
        rwa [show 180 + (y - 180) = y by omega] at this
