/-! WORDS OF THE PROOF, 1: constants; where each method begins (written by wip/whole/mk30.py) -/
theorem kc_m1000000 : Int32.ofInt (-1000000) = (-1000000) := rfl
theorem kc_m1 : Int32.ofInt (-1) = (-1) := rfl
theorem kc_0 : Int32.ofInt 0 = 0 := rfl
theorem kc_1 : Int32.ofInt 1 = 1 := rfl
theorem kc_2 : Int32.ofInt 2 = 2 := rfl
theorem kc_3 : Int32.ofInt 3 = 3 := rfl
theorem kc_4 : Int32.ofInt 4 = 4 := rfl
theorem kc_5 : Int32.ofInt 5 = 5 := rfl
theorem kc_100000 : Int32.ofInt 100000 = 100000 := rfl
theorem kb_m100 : (Int8.ofInt (-100)).toInt32 = (-100) := rfl
theorem kb_m50 : (Int8.ofInt (-50)).toInt32 = (-50) := rfl
theorem kb_m3 : (Int8.ofInt (-3)).toInt32 = (-3) := rfl
theorem kb_m2 : (Int8.ofInt (-2)).toInt32 = (-2) := rfl
theorem kb_6 : (Int8.ofInt 6).toInt32 = 6 := rfl
theorem kb_7 : (Int8.ofInt 7).toInt32 = 7 := rfl
theorem kb_8 : (Int8.ofInt 8).toInt32 = 8 := rfl
theorem kb_9 : (Int8.ofInt 9).toInt32 = 9 := rfl
theorem kb_10 : (Int8.ofInt 10).toInt32 = 10 := rfl
theorem kb_11 : (Int8.ofInt 11).toInt32 = 11 := rfl
theorem kb_12 : (Int8.ofInt 12).toInt32 = 12 := rfl
theorem kb_13 : (Int8.ofInt 13).toInt32 = 13 := rfl
theorem kb_14 : (Int8.ofInt 14).toInt32 = 14 := rfl
theorem kb_15 : (Int8.ofInt 15).toInt32 = 15 := rfl
theorem kb_16 : (Int8.ofInt 16).toInt32 = 16 := rfl
theorem kb_17 : (Int8.ofInt 17).toInt32 = 17 := rfl
theorem kb_18 : (Int8.ofInt 18).toInt32 = 18 := rfl
theorem kb_19 : (Int8.ofInt 19).toInt32 = 19 := rfl
theorem kb_20 : (Int8.ofInt 20).toInt32 = 20 := rfl
theorem kb_21 : (Int8.ofInt 21).toInt32 = 21 := rfl
theorem kb_23 : (Int8.ofInt 23).toInt32 = 23 := rfl
theorem kb_24 : (Int8.ofInt 24).toInt32 = 24 := rfl
theorem kb_30 : (Int8.ofInt 30).toInt32 = 30 := rfl
theorem kb_32 : (Int8.ofInt 32).toInt32 = 32 := rfl
theorem kb_36 : (Int8.ofInt 36).toInt32 = 36 := rfl
theorem kb_39 : (Int8.ofInt 39).toInt32 = 39 := rfl
theorem kb_40 : (Int8.ofInt 40).toInt32 = 40 := rfl
theorem kb_41 : (Int8.ofInt 41).toInt32 = 41 := rfl
theorem kb_45 : (Int8.ofInt 45).toInt32 = 45 := rfl
theorem kb_48 : (Int8.ofInt 48).toInt32 = 48 := rfl
theorem kb_50 : (Int8.ofInt 50).toInt32 = 50 := rfl
theorem kb_51 : (Int8.ofInt 51).toInt32 = 51 := rfl
theorem kb_57 : (Int8.ofInt 57).toInt32 = 57 := rfl
theorem kb_59 : (Int8.ofInt 59).toInt32 = 59 := rfl
theorem kb_60 : (Int8.ofInt 60).toInt32 = 60 := rfl
theorem kb_61 : (Int8.ofInt 61).toInt32 = 61 := rfl
theorem kb_63 : (Int8.ofInt 63).toInt32 = 63 := rfl
theorem kb_64 : (Int8.ofInt 64).toInt32 = 64 := rfl
theorem kb_72 : (Int8.ofInt 72).toInt32 = 72 := rfl
theorem kb_80 : (Int8.ofInt 80).toInt32 = 80 := rfl
theorem kb_90 : (Int8.ofInt 90).toInt32 = 90 := rfl
theorem kb_91 : (Int8.ofInt 91).toInt32 = 91 := rfl
theorem kb_97 : (Int8.ofInt 97).toInt32 = 97 := rfl
theorem kb_99 : (Int8.ofInt 99).toInt32 = 99 := rfl
theorem kb_100 : (Int8.ofInt 100).toInt32 = 100 := rfl
theorem kb_122 : (Int8.ofInt 122).toInt32 = 122 := rfl
theorem ks_m1000 : (Int16.ofInt (-1000)).toInt32 = (-1000) := rfl
theorem ks_160 : (Int16.ofInt 160).toInt32 = 160 := rfl
theorem ks_161 : (Int16.ofInt 161).toInt32 = 161 := rfl
theorem ks_180 : (Int16.ofInt 180).toInt32 = 180 := rfl
theorem ks_200 : (Int16.ofInt 200).toInt32 = 200 := rfl
theorem ks_201 : (Int16.ofInt 201).toInt32 = 201 := rfl
theorem ks_202 : (Int16.ofInt 202).toInt32 = 202 := rfl
theorem ks_240 : (Int16.ofInt 240).toInt32 = 240 := rfl
theorem ks_250 : (Int16.ofInt 250).toInt32 = 250 := rfl
theorem ks_255 : (Int16.ofInt 255).toInt32 = 255 := rfl
theorem ks_288 : (Int16.ofInt 288).toInt32 = 288 := rfl
theorem ks_400 : (Int16.ofInt 400).toInt32 = 400 := rfl
theorem ks_900 : (Int16.ofInt 900).toInt32 = 900 := rfl
theorem ks_1000 : (Int16.ofInt 1000).toInt32 = 1000 := rfl
theorem ks_1440 : (Int16.ofInt 1440).toInt32 = 1440 := rfl
theorem ks_1616 : (Int16.ofInt 1616).toInt32 = 1616 := rfl
theorem ks_2048 : (Int16.ofInt 2048).toInt32 = 2048 := rfl
theorem ks_2730 : (Int16.ofInt 2730).toInt32 = 2730 := rfl
theorem ks_12000 : (Int16.ofInt 12000).toInt32 = 12000 := rfl
theorem kl2_32 : Int64.ofInt 32 = 32 := rfl
theorem kl2_97 : Int64.ofInt 97 = 97 := rfl
theorem kl2_255 : Int64.ofInt 255 = 255 := rfl
theorem kl2_4294967295 : Int64.ofInt 4294967295 = 4294967295 := rfl
theorem klc_0 : Int64.ofNat ((0 : Fin 2) : Nat) = 0 := rfl
theorem klc_1 : Int64.ofNat ((1 : Fin 2) : Nat) = 1 := rfl
theorem ti_m1000000 : ((-1000000) : Int32).toInt = (-1000000) := rfl
theorem ti_m1000 : ((-1000) : Int32).toInt = (-1000) := rfl
theorem ti_m100 : ((-100) : Int32).toInt = (-100) := rfl
theorem ti_m50 : ((-50) : Int32).toInt = (-50) := rfl
theorem ti_m3 : ((-3) : Int32).toInt = (-3) := rfl
theorem ti_m2 : ((-2) : Int32).toInt = (-2) := rfl
theorem ti_m1 : ((-1) : Int32).toInt = (-1) := rfl
theorem ti_0 : (0 : Int32).toInt = 0 := rfl
theorem tc_0 : (0 : Int32).toNatClampNeg = 0 := rfl
theorem ti_1 : (1 : Int32).toInt = 1 := rfl
theorem tc_1 : (1 : Int32).toNatClampNeg = 1 := rfl
theorem ti_2 : (2 : Int32).toInt = 2 := rfl
theorem tc_2 : (2 : Int32).toNatClampNeg = 2 := rfl
theorem ti_3 : (3 : Int32).toInt = 3 := rfl
theorem tc_3 : (3 : Int32).toNatClampNeg = 3 := rfl
theorem ti_4 : (4 : Int32).toInt = 4 := rfl
theorem tc_4 : (4 : Int32).toNatClampNeg = 4 := rfl
theorem ti_5 : (5 : Int32).toInt = 5 := rfl
theorem tc_5 : (5 : Int32).toNatClampNeg = 5 := rfl
theorem ti_6 : (6 : Int32).toInt = 6 := rfl
theorem tc_6 : (6 : Int32).toNatClampNeg = 6 := rfl
theorem ti_7 : (7 : Int32).toInt = 7 := rfl
theorem tc_7 : (7 : Int32).toNatClampNeg = 7 := rfl
theorem ti_8 : (8 : Int32).toInt = 8 := rfl
theorem tc_8 : (8 : Int32).toNatClampNeg = 8 := rfl
theorem ti_9 : (9 : Int32).toInt = 9 := rfl
theorem tc_9 : (9 : Int32).toNatClampNeg = 9 := rfl
theorem ti_10 : (10 : Int32).toInt = 10 := rfl
theorem tc_10 : (10 : Int32).toNatClampNeg = 10 := rfl
theorem ti_11 : (11 : Int32).toInt = 11 := rfl
theorem tc_11 : (11 : Int32).toNatClampNeg = 11 := rfl
theorem ti_12 : (12 : Int32).toInt = 12 := rfl
theorem tc_12 : (12 : Int32).toNatClampNeg = 12 := rfl
theorem ti_13 : (13 : Int32).toInt = 13 := rfl
theorem tc_13 : (13 : Int32).toNatClampNeg = 13 := rfl
theorem ti_14 : (14 : Int32).toInt = 14 := rfl
theorem tc_14 : (14 : Int32).toNatClampNeg = 14 := rfl
theorem ti_15 : (15 : Int32).toInt = 15 := rfl
theorem tc_15 : (15 : Int32).toNatClampNeg = 15 := rfl
theorem ti_16 : (16 : Int32).toInt = 16 := rfl
theorem tc_16 : (16 : Int32).toNatClampNeg = 16 := rfl
theorem ti_17 : (17 : Int32).toInt = 17 := rfl
theorem tc_17 : (17 : Int32).toNatClampNeg = 17 := rfl
theorem ti_18 : (18 : Int32).toInt = 18 := rfl
theorem tc_18 : (18 : Int32).toNatClampNeg = 18 := rfl
theorem ti_19 : (19 : Int32).toInt = 19 := rfl
theorem tc_19 : (19 : Int32).toNatClampNeg = 19 := rfl
theorem ti_20 : (20 : Int32).toInt = 20 := rfl
theorem tc_20 : (20 : Int32).toNatClampNeg = 20 := rfl
theorem ti_21 : (21 : Int32).toInt = 21 := rfl
theorem tc_21 : (21 : Int32).toNatClampNeg = 21 := rfl
theorem ti_23 : (23 : Int32).toInt = 23 := rfl
theorem tc_23 : (23 : Int32).toNatClampNeg = 23 := rfl
theorem ti_24 : (24 : Int32).toInt = 24 := rfl
theorem tc_24 : (24 : Int32).toNatClampNeg = 24 := rfl
theorem ti_26 : (26 : Int32).toInt = 26 := rfl
theorem tc_26 : (26 : Int32).toNatClampNeg = 26 := rfl
theorem ti_27 : (27 : Int32).toInt = 27 := rfl
theorem tc_27 : (27 : Int32).toNatClampNeg = 27 := rfl
theorem ti_28 : (28 : Int32).toInt = 28 := rfl
theorem tc_28 : (28 : Int32).toNatClampNeg = 28 := rfl
theorem ti_29 : (29 : Int32).toInt = 29 := rfl
theorem tc_29 : (29 : Int32).toNatClampNeg = 29 := rfl
theorem ti_30 : (30 : Int32).toInt = 30 := rfl
theorem tc_30 : (30 : Int32).toNatClampNeg = 30 := rfl
theorem ti_32 : (32 : Int32).toInt = 32 := rfl
theorem tc_32 : (32 : Int32).toNatClampNeg = 32 := rfl
theorem ti_36 : (36 : Int32).toInt = 36 := rfl
theorem tc_36 : (36 : Int32).toNatClampNeg = 36 := rfl
theorem ti_38 : (38 : Int32).toInt = 38 := rfl
theorem tc_38 : (38 : Int32).toNatClampNeg = 38 := rfl
theorem ti_39 : (39 : Int32).toInt = 39 := rfl
theorem tc_39 : (39 : Int32).toNatClampNeg = 39 := rfl
theorem ti_40 : (40 : Int32).toInt = 40 := rfl
theorem tc_40 : (40 : Int32).toNatClampNeg = 40 := rfl
theorem ti_41 : (41 : Int32).toInt = 41 := rfl
theorem tc_41 : (41 : Int32).toNatClampNeg = 41 := rfl
theorem ti_42 : (42 : Int32).toInt = 42 := rfl
theorem tc_42 : (42 : Int32).toNatClampNeg = 42 := rfl
theorem ti_45 : (45 : Int32).toInt = 45 := rfl
theorem tc_45 : (45 : Int32).toNatClampNeg = 45 := rfl
theorem ti_47 : (47 : Int32).toInt = 47 := rfl
theorem tc_47 : (47 : Int32).toNatClampNeg = 47 := rfl
theorem ti_48 : (48 : Int32).toInt = 48 := rfl
theorem tc_48 : (48 : Int32).toNatClampNeg = 48 := rfl
theorem ti_49 : (49 : Int32).toInt = 49 := rfl
theorem tc_49 : (49 : Int32).toNatClampNeg = 49 := rfl
theorem ti_50 : (50 : Int32).toInt = 50 := rfl
theorem tc_50 : (50 : Int32).toNatClampNeg = 50 := rfl
theorem ti_51 : (51 : Int32).toInt = 51 := rfl
theorem tc_51 : (51 : Int32).toNatClampNeg = 51 := rfl
theorem ti_57 : (57 : Int32).toInt = 57 := rfl
theorem tc_57 : (57 : Int32).toNatClampNeg = 57 := rfl
theorem ti_59 : (59 : Int32).toInt = 59 := rfl
theorem tc_59 : (59 : Int32).toNatClampNeg = 59 := rfl
theorem ti_60 : (60 : Int32).toInt = 60 := rfl
theorem tc_60 : (60 : Int32).toNatClampNeg = 60 := rfl
theorem ti_61 : (61 : Int32).toInt = 61 := rfl
theorem tc_61 : (61 : Int32).toNatClampNeg = 61 := rfl
theorem ti_63 : (63 : Int32).toInt = 63 := rfl
theorem tc_63 : (63 : Int32).toNatClampNeg = 63 := rfl
theorem ti_64 : (64 : Int32).toInt = 64 := rfl
theorem tc_64 : (64 : Int32).toNatClampNeg = 64 := rfl
theorem ti_72 : (72 : Int32).toInt = 72 := rfl
theorem tc_72 : (72 : Int32).toNatClampNeg = 72 := rfl
theorem ti_80 : (80 : Int32).toInt = 80 := rfl
theorem tc_80 : (80 : Int32).toNatClampNeg = 80 := rfl
theorem ti_90 : (90 : Int32).toInt = 90 := rfl
theorem tc_90 : (90 : Int32).toNatClampNeg = 90 := rfl
theorem ti_91 : (91 : Int32).toInt = 91 := rfl
theorem tc_91 : (91 : Int32).toNatClampNeg = 91 := rfl
theorem ti_97 : (97 : Int32).toInt = 97 := rfl
theorem tc_97 : (97 : Int32).toNatClampNeg = 97 := rfl
theorem ti_99 : (99 : Int32).toInt = 99 := rfl
theorem tc_99 : (99 : Int32).toNatClampNeg = 99 := rfl
theorem ti_100 : (100 : Int32).toInt = 100 := rfl
theorem tc_100 : (100 : Int32).toNatClampNeg = 100 := rfl
theorem ti_122 : (122 : Int32).toInt = 122 := rfl
theorem tc_122 : (122 : Int32).toNatClampNeg = 122 := rfl
theorem ti_160 : (160 : Int32).toInt = 160 := rfl
theorem tc_160 : (160 : Int32).toNatClampNeg = 160 := rfl
theorem ti_161 : (161 : Int32).toInt = 161 := rfl
theorem tc_161 : (161 : Int32).toNatClampNeg = 161 := rfl
theorem ti_180 : (180 : Int32).toInt = 180 := rfl
theorem tc_180 : (180 : Int32).toNatClampNeg = 180 := rfl
theorem ti_200 : (200 : Int32).toInt = 200 := rfl
theorem tc_200 : (200 : Int32).toNatClampNeg = 200 := rfl
theorem ti_201 : (201 : Int32).toInt = 201 := rfl
theorem tc_201 : (201 : Int32).toNatClampNeg = 201 := rfl
theorem ti_202 : (202 : Int32).toInt = 202 := rfl
theorem tc_202 : (202 : Int32).toNatClampNeg = 202 := rfl
theorem ti_240 : (240 : Int32).toInt = 240 := rfl
theorem tc_240 : (240 : Int32).toNatClampNeg = 240 := rfl
theorem ti_250 : (250 : Int32).toInt = 250 := rfl
theorem tc_250 : (250 : Int32).toNatClampNeg = 250 := rfl
theorem ti_255 : (255 : Int32).toInt = 255 := rfl
theorem tc_255 : (255 : Int32).toNatClampNeg = 255 := rfl
theorem ti_288 : (288 : Int32).toInt = 288 := rfl
theorem tc_288 : (288 : Int32).toNatClampNeg = 288 := rfl
theorem ti_400 : (400 : Int32).toInt = 400 := rfl
theorem tc_400 : (400 : Int32).toNatClampNeg = 400 := rfl
theorem ti_900 : (900 : Int32).toInt = 900 := rfl
theorem tc_900 : (900 : Int32).toNatClampNeg = 900 := rfl
theorem ti_1000 : (1000 : Int32).toInt = 1000 := rfl
theorem tc_1000 : (1000 : Int32).toNatClampNeg = 1000 := rfl
theorem ti_1440 : (1440 : Int32).toInt = 1440 := rfl
theorem tc_1440 : (1440 : Int32).toNatClampNeg = 1440 := rfl
theorem ti_1616 : (1616 : Int32).toInt = 1616 := rfl
theorem tc_1616 : (1616 : Int32).toNatClampNeg = 1616 := rfl
theorem ti_2048 : (2048 : Int32).toInt = 2048 := rfl
theorem tc_2048 : (2048 : Int32).toNatClampNeg = 2048 := rfl
theorem ti_2730 : (2730 : Int32).toInt = 2730 := rfl
theorem tc_2730 : (2730 : Int32).toNatClampNeg = 2730 := rfl
theorem ti_12000 : (12000 : Int32).toInt = 12000 := rfl
theorem tc_12000 : (12000 : Int32).toNatClampNeg = 12000 := rfl
theorem ti_100000 : (100000 : Int32).toInt = 100000 := rfl
theorem tc_100000 : (100000 : Int32).toNatClampNeg = 100000 := rfl
/-- Acts.init -/
theorem e0 {d : Nat} {a : Nat} {h : Hp} {Q : Option AV → Hp → Prop} : Wc d 0 [.inr (.inr (some a))] h Q ↔ Wp d 0 Bk0_0 [some (.inr (.inr (some a)))] [] h Q := (Wc_d (Nat.le_of_ble_eq_true rfl)).trans Iff.rfl
/-- Acts.perform -/
theorem e1 {d : Nat} {a : Nat} {x0 : Option Nat} {x1 : Int32} {x2 : Int32} {h : Hp} {Q : Option AV → Hp → Prop} : Wc d 1 [.inr (.inr (some a)), .inr (.inr x0), .inl x1, .inl x2] h Q ↔ Wp d 1 Bk1_0 [some (.inr (.inr (some a))), some (.inr (.inr x0)), some (.inl x1), some (.inl x2)] [] h Q := (Wc_d (Nat.le_of_ble_eq_true rfl)).trans Iff.rfl
/-- Acts.call -/
theorem e2 {d : Nat} {a : Nat} {x0 : Int32} {x1 : Int32} {x2 : Int32} {x3 : Int32} {h : Hp} {Q : Option AV → Hp → Prop} : Wc d 2 [.inr (.inr (some a)), .inl x0, .inl x1, .inl x2, .inl x3] h Q ↔ Wp d 2 Bk2_0 [some (.inr (.inr (some a))), some (.inl x0), some (.inl x1), some (.inl x2), some (.inl x3), none, none] [] h Q := (Wc_d (Nat.le_of_ble_eq_true rfl)).trans Iff.rfl
/-- Acts.run -/
theorem e3 {d : Nat} {a : Nat} {x0 : Int32} {x1 : Int32} {x2 : Int32} {h : Hp} {Q : Option AV → Hp → Prop} : Wc d 3 [.inr (.inr (some a)), .inl x0, .inl x1, .inl x2] h Q ↔ Wp d 3 Bk3_0 [some (.inr (.inr (some a))), some (.inl x0), some (.inl x1), some (.inl x2), none, none] [] h Q := (Wc_d (Nat.le_of_ble_eq_true rfl)).trans Iff.rfl
/-- Acts.bodyOf -/
theorem e4 {d : Nat} {x0 : Int32} {x1 : Int32} {h : Hp} {Q : Option AV → Hp → Prop} : Wc d 4 [.inl x0, .inl x1] h Q ↔ Wp d 4 Bk4_0 [some (.inl x0), some (.inl x1)] [] h Q := (Wc_d (Nat.le_of_ble_eq_true rfl)).trans Iff.rfl
/-- Bottle.init -/
theorem e5 {d : Nat} {a : Nat} {x0 : Int32} {h : Hp} {Q : Option AV → Hp → Prop} : Wc d 5 [.inr (.inr (some a)), .inl x0] h Q ↔ Wp d 5 Bk5_0 [some (.inr (.inr (some a))), some (.inl x0)] [] h Q := (Wc_d (Nat.le_of_ble_eq_true rfl)).trans Iff.rfl
/-- Cast.init -/
theorem e6 {d : Nat} {a : Nat} {x0 : Int32} {x1 : Int32} {x2 : Int32} {x3 : Int32} {h : Hp} {Q : Option AV → Hp → Prop} : Wc d 6 [.inr (.inr (some a)), .inl x0, .inl x1, .inl x2, .inl x3] h Q ↔ Wp d 6 Bk6_0 [some (.inr (.inr (some a))), some (.inl x0), some (.inl x1), some (.inl x2), some (.inl x3)] [] h Q := (Wc_d (Nat.le_of_ble_eq_true rfl)).trans Iff.rfl
/-- Cast.minutesDown -/
theorem e7 {d : Nat} {a : Nat} {h : Hp} {Q : Option AV → Hp → Prop} : Wc d 7 [.inr (.inr (some a))] h Q ↔ Wp d 7 Bk7_0 [some (.inr (.inr (some a)))] [] h Q := (Wc_d (Nat.le_of_ble_eq_true rfl)).trans Iff.rfl
/-- Cast.minutes -/
theorem e8 {d : Nat} {a : Nat} {h : Hp} {Q : Option AV → Hp → Prop} : Wc d 8 [.inr (.inr (some a))] h Q ↔ Wp d 8 Bk8_0 [some (.inr (.inr (some a))), none] [] h Q := (Wc_d (Nat.le_of_ble_eq_true rfl)).trans Iff.rfl
/-- Cast.deepestNext -/
theorem e9 {d : Nat} {a : Nat} {h : Hp} {Q : Option AV → Hp → Prop} : Wc d 9 [.inr (.inr (some a))] h Q ↔ Wp d 9 Bk9_0 [some (.inr (.inr (some a))), none] [] h Q := (Wc_d (Nat.le_of_ble_eq_true rfl)).trans Iff.rfl
/-- Cast.shutBottles -/
theorem e10 {d : Nat} {a : Nat} {h : Hp} {Q : Option AV → Hp → Prop} : Wc d 10 [.inr (.inr (some a))] h Q ↔ Wp d 10 Bk10_0 [some (.inr (.inr (some a))), none, none] [] h Q := (Wc_d (Nat.le_of_ble_eq_true rfl)).trans Iff.rfl
/-- Cast.readingsBetween -/
theorem e11 {d : Nat} {a : Nat} {x0 : Int32} {x1 : Int32} {x2 : Int32} {h : Hp} {Q : Option AV → Hp → Prop} : Wc d 11 [.inr (.inr (some a)), .inl x0, .inl x1, .inl x2] h Q ↔ Wp d 11 Bk11_0 [some (.inr (.inr (some a))), some (.inl x0), some (.inl x1), some (.inl x2), none, none, none] [] h Q := (Wc_d (Nat.le_of_ble_eq_true rfl)).trans Iff.rfl
/-- Cast.eighthsBetween -/
theorem e12 {d : Nat} {a : Nat} {x0 : Int32} {x1 : Int32} {h : Hp} {Q : Option AV → Hp → Prop} : Wc d 12 [.inr (.inr (some a)), .inl x0, .inl x1] h Q ↔ Wp d 12 Bk12_0 [some (.inr (.inr (some a))), some (.inl x0), some (.inl x1), none, none] [] h Q := (Wc_d (Nat.le_of_ble_eq_true rfl)).trans Iff.rfl
/-- Hand.init -/
theorem e13 {d : Nat} {a : Nat} {x0 : Int32} {h : Hp} {Q : Option AV → Hp → Prop} : Wc d 13 [.inr (.inr (some a)), .inl x0] h Q ↔ Wp d 13 Bk13_0 [some (.inr (.inr (some a))), some (.inl x0)] [] h Q := (Wc_d (Nat.le_of_ble_eq_true rfl)).trans Iff.rfl
/-- LineReader.init -/
theorem e14 {d : Nat} {a : Nat} {h : Hp} {Q : Option AV → Hp → Prop} : Wc d 14 [.inr (.inr (some a))] h Q ↔ Wp d 14 Bk14_0 [some (.inr (.inr (some a)))] [] h Q := (Wc_d (Nat.le_of_ble_eq_true rfl)).trans Iff.rfl
/-- LineReader.putByte -/
theorem e15 {d : Nat} {a : Nat} {x0 : Int32} {h : Hp} {Q : Option AV → Hp → Prop} : Wc d 15 [.inr (.inr (some a)), .inl x0] h Q ↔ Wp d 15 Bk15_0 [some (.inr (.inr (some a))), some (.inl x0)] [] h Q := (Wc_d (Nat.le_of_ble_eq_true rfl)).trans Iff.rfl
/-- LineReader.readTape -/
theorem e16 {d : Nat} {a : Nat} {h : Hp} {Q : Option AV → Hp → Prop} : Wc d 16 [.inr (.inr (some a))] h Q ↔ Wp d 16 Bk16_0 [some (.inr (.inr (some a))), none, none] [] h Q := (Wc_d (Nat.le_of_ble_eq_true rfl)).trans Iff.rfl
/-- LineReader.exchange -/
theorem e17 {d : Nat} {a : Nat} {x0 : Option Nat} {h : Hp} {Q : Option AV → Hp → Prop} : Wc d 17 [.inr (.inr (some a)), .inr (.inr x0)] h Q ↔ Wp d 17 Bk17_0 [some (.inr (.inr (some a))), some (.inr (.inr x0)), none] [] h Q := (Wc_d (Nat.le_of_ble_eq_true rfl)).trans Iff.rfl
/-- LineReader.scan -/
theorem e18 {d : Nat} {a : Nat} {h : Hp} {Q : Option AV → Hp → Prop} : Wc d 18 [.inr (.inr (some a))] h Q ↔ Wp d 18 Bk18_0 [some (.inr (.inr (some a))), none, none] [] h Q := (Wc_d (Nat.le_of_ble_eq_true rfl)).trans Iff.rfl
/-- LineReader.scanToken -/
theorem e19 {d : Nat} {a : Nat} {x0 : Int32} {h : Hp} {Q : Option AV → Hp → Prop} : Wc d 19 [.inr (.inr (some a)), .inl x0] h Q ↔ Wp d 19 Bk19_0 [some (.inr (.inr (some a))), some (.inl x0), none] [] h Q := (Wc_d (Nat.le_of_ble_eq_true rfl)).trans Iff.rfl
/-- LineReader.scanNumber -/
theorem e20 {d : Nat} {a : Nat} {x0 : Int32} {h : Hp} {Q : Option AV → Hp → Prop} : Wc d 20 [.inr (.inr (some a)), .inl x0] h Q ↔ Wp d 20 Bk20_0 [some (.inr (.inr (some a))), some (.inl x0), none, none] [] h Q := (Wc_d (Nat.le_of_ble_eq_true rfl)).trans Iff.rfl
/-- LineReader.scanKey -/
theorem e21 {d : Nat} {a : Nat} {x0 : Int32} {h : Hp} {Q : Option AV → Hp → Prop} : Wc d 21 [.inr (.inr (some a)), .inl x0] h Q ↔ Wp d 21 Bk21_0 [some (.inr (.inr (some a))), some (.inl x0), none] [] h Q := (Wc_d (Nat.le_of_ble_eq_true rfl)).trans Iff.rfl
/-- LineReader.byteAt -/
theorem e22 {d : Nat} {a : Nat} {x0 : Int32} {h : Hp} {Q : Option AV → Hp → Prop} : Wc d 22 [.inr (.inr (some a)), .inl x0] h Q ↔ Wp d 22 Bk22_0 [some (.inr (.inr (some a))), some (.inl x0)] [] h Q := (Wc_d (Nat.le_of_ble_eq_true rfl)).trans Iff.rfl
/-- LineReader.putToken -/
theorem e23 {d : Nat} {a : Nat} {x0 : Int32} {x1 : Int32} {x2 : Int32} {h : Hp} {Q : Option AV → Hp → Prop} : Wc d 23 [.inr (.inr (some a)), .inl x0, .inl x1, .inl x2] h Q ↔ Wp d 23 Bk23_0 [some (.inr (.inr (some a))), some (.inl x0), some (.inl x1), some (.inl x2)] [] h Q := (Wc_d (Nat.le_of_ble_eq_true rfl)).trans Iff.rfl
/-- LineReader.keyFrom -/
theorem e24 {d : Nat} {a : Nat} {x0 : Int32} {x1 : Int32} {h : Hp} {Q : Option AV → Hp → Prop} : Wc d 24 [.inr (.inr (some a)), .inl x0, .inl x1] h Q ↔ Wp d 24 Bk24_0 [some (.inr (.inr (some a))), some (.inl x0), some (.inl x1)] [] h Q := (Wc_d (Nat.le_of_ble_eq_true rfl)).trans Iff.rfl
/-- LineReader.isWord -/
theorem e25 {d : Nat} {a : Nat} {x0 : Option Nat} {x1 : Int32} {x2 : Int32} {h : Hp} {Q : Option AV → Hp → Prop} : Wc d 25 [.inr (.inr (some a)), .inr (.inr x0), .inl x1, .inl x2] h Q ↔ Wp d 25 Bk25_0 [some (.inr (.inr (some a))), some (.inr (.inr x0)), some (.inl x1), some (.inl x2), none] [] h Q := (Wc_d (Nat.le_of_ble_eq_true rfl)).trans Iff.rfl
/-- LineReader.signOf -/
theorem e26 {d : Nat} {x0 : Int32} {h : Hp} {Q : Option AV → Hp → Prop} : Wc d 26 [.inl x0] h Q ↔ Wp d 26 Bk26_0 [some (.inl x0)] [] h Q := (Wc_d (Nat.le_of_ble_eq_true rfl)).trans Iff.rfl
/-- LineReader.isDigit -/
theorem e27 {d : Nat} {x0 : Int32} {h : Hp} {Q : Option AV → Hp → Prop} : Wc d 27 [.inl x0] h Q ↔ Wp d 27 Bk27_0 [some (.inl x0)] [] h Q := (Wc_d (Nat.le_of_ble_eq_true rfl)).trans Iff.rfl
/-- LineReader.isLetter -/
theorem e28 {d : Nat} {x0 : Int32} {h : Hp} {Q : Option AV → Hp → Prop} : Wc d 28 [.inl x0] h Q ↔ Wp d 28 Bk28_0 [some (.inl x0)] [] h Q := (Wc_d (Nat.le_of_ble_eq_true rfl)).trans Iff.rfl
/-- LineReader.readLine -/
theorem e29 {d : Nat} {a : Nat} {h : Hp} {Q : Option AV → Hp → Prop} : Wc d 29 [.inr (.inr (some a))] h Q ↔ Wp d 29 Bk29_0 [some (.inr (.inr (some a))), none, none] [] h Q := (Wc_d (Nat.le_of_ble_eq_true rfl)).trans Iff.rfl
/-- LineReader.readOr -/
theorem e30 {d : Nat} {a : Nat} {x0 : Int32} {h : Hp} {Q : Option AV → Hp → Prop} : Wc d 30 [.inr (.inr (some a)), .inl x0] h Q ↔ Wp d 30 Bk30_0 [some (.inr (.inr (some a))), some (.inl x0), none] [] h Q := (Wc_d (Nat.le_of_ble_eq_true rfl)).trans Iff.rfl
/-- LineReader.readAnd -/
theorem e31 {d : Nat} {a : Nat} {x0 : Int32} {h : Hp} {Q : Option AV → Hp → Prop} : Wc d 31 [.inr (.inr (some a)), .inl x0] h Q ↔ Wp d 31 Bk31_0 [some (.inr (.inr (some a))), some (.inl x0), none] [] h Q := (Wc_d (Nat.le_of_ble_eq_true rfl)).trans Iff.rfl
/-- LineReader.readNot -/
theorem e32 {d : Nat} {a : Nat} {x0 : Int32} {h : Hp} {Q : Option AV → Hp → Prop} : Wc d 32 [.inr (.inr (some a)), .inl x0] h Q ↔ Wp d 32 Bk32_0 [some (.inr (.inr (some a))), some (.inl x0)] [] h Q := (Wc_d (Nat.le_of_ble_eq_true rfl)).trans Iff.rfl
/-- LineReader.readComparison -/
theorem e33 {d : Nat} {a : Nat} {h : Hp} {Q : Option AV → Hp → Prop} : Wc d 33 [.inr (.inr (some a))] h Q ↔ Wp d 33 Bk33_0 [some (.inr (.inr (some a))), none, none, none] [] h Q := (Wc_d (Nat.le_of_ble_eq_true rfl)).trans Iff.rfl
/-- LineReader.nextKind -/
theorem e34 {d : Nat} {a : Nat} {h : Hp} {Q : Option AV → Hp → Prop} : Wc d 34 [.inr (.inr (some a))] h Q ↔ Wp d 34 Bk34_0 [some (.inr (.inr (some a)))] [] h Q := (Wc_d (Nat.le_of_ble_eq_true rfl)).trans Iff.rfl
/-- LineReader.nextSpot -/
theorem e35 {d : Nat} {a : Nat} {h : Hp} {Q : Option AV → Hp → Prop} : Wc d 35 [.inr (.inr (some a))] h Q ↔ Wp d 35 Bk35_0 [some (.inr (.inr (some a)))] [] h Q := (Wc_d (Nat.le_of_ble_eq_true rfl)).trans Iff.rfl
/-- LineReader.nextNumber -/
theorem e36 {d : Nat} {a : Nat} {h : Hp} {Q : Option AV → Hp → Prop} : Wc d 36 [.inr (.inr (some a))] h Q ↔ Wp d 36 Bk36_0 [some (.inr (.inr (some a)))] [] h Q := (Wc_d (Nat.le_of_ble_eq_true rfl)).trans Iff.rfl
/-- LineReader.isNext -/
theorem e37 {d : Nat} {a : Nat} {x0 : Int32} {h : Hp} {Q : Option AV → Hp → Prop} : Wc d 37 [.inr (.inr (some a)), .inl x0] h Q ↔ Wp d 37 Bk37_0 [some (.inr (.inr (some a))), some (.inl x0)] [] h Q := (Wc_d (Nat.le_of_ble_eq_true rfl)).trans Iff.rfl
/-- LineReader.accept -/
theorem e38 {d : Nat} {a : Nat} {x0 : Int32} {h : Hp} {Q : Option AV → Hp → Prop} : Wc d 38 [.inr (.inr (some a)), .inl x0] h Q ↔ Wp d 38 Bk38_0 [some (.inr (.inr (some a))), some (.inl x0), none] [] h Q := (Wc_d (Nat.le_of_ble_eq_true rfl)).trans Iff.rfl
/-- Lines.init -/
theorem e39 {d : Nat} {a : Nat} {h : Hp} {Q : Option AV → Hp → Prop} : Wc d 39 [.inr (.inr (some a))] h Q ↔ Wp d 39 Bk39_0 [some (.inr (.inr (some a)))] [] h Q := (Wc_d (Nat.le_of_ble_eq_true rfl)).trans Iff.rfl
/-- Lines.clear -/
theorem e40 {d : Nat} {a : Nat} {h : Hp} {Q : Option AV → Hp → Prop} : Wc d 40 [.inr (.inr (some a))] h Q ↔ Wp d 40 Bk40_0 [some (.inr (.inr (some a)))] [] h Q := (Wc_d (Nat.le_of_ble_eq_true rfl)).trans Iff.rfl
/-- Lines.comparison -/
theorem e41 {d : Nat} {x0 : Int32} {x1 : Int32} {x2 : Int32} {h : Hp} {Q : Option AV → Hp → Prop} : Wc d 41 [.inl x0, .inl x1, .inl x2] h Q ↔ Wp d 41 Bk41_0 [some (.inl x0), some (.inl x1), some (.inl x2)] [] h Q := (Wc_d (Nat.le_of_ble_eq_true rfl)).trans Iff.rfl
/-- Lines.putStep -/
theorem e42 {d : Nat} {a : Nat} {x0 : Int32} {h : Hp} {Q : Option AV → Hp → Prop} : Wc d 42 [.inr (.inr (some a)), .inl x0] h Q ↔ Wp d 42 Bk42_0 [some (.inr (.inr (some a))), some (.inl x0)] [] h Q := (Wc_d (Nat.le_of_ble_eq_true rfl)).trans Iff.rfl
/-- Lines.endLine -/
theorem e43 {d : Nat} {a : Nat} {x0 : Int32} {h : Hp} {Q : Option AV → Hp → Prop} : Wc d 43 [.inr (.inr (some a)), .inl x0] h Q ↔ Wp d 43 Bk43_0 [some (.inr (.inr (some a))), some (.inl x0)] [] h Q := (Wc_d (Nat.le_of_ble_eq_true rfl)).trans Iff.rfl
/-- Lines.firstHolding -/
theorem e44 {d : Nat} {a : Nat} {x0 : Option Nat} {h : Hp} {Q : Option AV → Hp → Prop} : Wc d 44 [.inr (.inr (some a)), .inr (.inr x0)] h Q ↔ Wp d 44 Bk44_0 [some (.inr (.inr (some a))), some (.inr (.inr x0)), none, none] [] h Q := (Wc_d (Nat.le_of_ble_eq_true rfl)).trans Iff.rfl
/-- Lines.holds -/
theorem e45 {d : Nat} {a : Nat} {x0 : Int32} {x1 : Int32} {x2 : Option Nat} {h : Hp} {Q : Option AV → Hp → Prop} : Wc d 45 [.inr (.inr (some a)), .inl x0, .inl x1, .inr (.inr x2)] h Q ↔ Wp d 45 Bk45_0 [some (.inr (.inr (some a))), some (.inl x0), some (.inl x1), some (.inr (.inr x2)), none, none, none, none, none, none, none, none] [] h Q := (Wc_d (Nat.le_of_ble_eq_true rfl)).trans Iff.rfl
/-- Lines.compares -/
theorem e46 {d : Nat} {x0 : Int32} {x1 : Option Nat} {h : Hp} {Q : Option AV → Hp → Prop} : Wc d 46 [.inl x0, .inr (.inr x1)] h Q ↔ Wp d 46 Bk46_0 [some (.inl x0), some (.inr (.inr x1)), none, none] [] h Q := (Wc_d (Nat.le_of_ble_eq_true rfl)).trans Iff.rfl
/-- Planner.init -/
theorem e47 {d : Nat} {a : Nat} {h : Hp} {Q : Option AV → Hp → Prop} : Wc d 47 [.inr (.inr (some a))] h Q ↔ Wp d 47 Bk47_0 [some (.inr (.inr (some a)))] [] h Q := (Wc_d (Nat.le_of_ble_eq_true rfl)).trans Iff.rfl
/-- Planner.clear -/
theorem e48 {d : Nat} {a : Nat} {x0 : Int32} {h : Hp} {Q : Option AV → Hp → Prop} : Wc d 48 [.inr (.inr (some a)), .inl x0] h Q ↔ Wp d 48 Bk48_0 [some (.inr (.inr (some a))), some (.inl x0)] [] h Q := (Wc_d (Nat.le_of_ble_eq_true rfl)).trans Iff.rfl
/-- Planner.tell -/
theorem e49 {d : Nat} {a : Nat} {x0 : Int32} {x1 : Option Nat} {x2 : Int32} {x3 : Option Nat} {h : Hp} {Q : Option AV → Hp → Prop} : Wc d 49 [.inr (.inr (some a)), .inl x0, .inr (.inr x1), .inl x2, .inr (.inr x3)] h Q ↔ Wp d 49 Bk49_0 [some (.inr (.inr (some a))), some (.inl x0), some (.inr (.inr x1)), some (.inl x2), some (.inr (.inr x3)), none, none, none, none] [] h Q := (Wc_d (Nat.le_of_ble_eq_true rfl)).trans Iff.rfl
/-- Planner.tellWay -/
theorem e50 {d : Nat} {a : Nat} {x0 : Int32} {x1 : Int32} {x2 : Int32} {h : Hp} {Q : Option AV → Hp → Prop} : Wc d 50 [.inr (.inr (some a)), .inl x0, .inl x1, .inl x2] h Q ↔ Wp d 50 Bk50_0 [some (.inr (.inr (some a))), some (.inl x0), some (.inl x1), some (.inl x2)] [] h Q := (Wc_d (Nat.le_of_ble_eq_true rfl)).trans Iff.rfl
/-- Planner.search -/
theorem e51 {d : Nat} {a : Nat} {h : Hp} {Q : Option AV → Hp → Prop} : Wc d 51 [.inr (.inr (some a))] h Q ↔ Wp d 51 Bk51_0 [some (.inr (.inr (some a)))] [] h Q := (Wc_d (Nat.le_of_ble_eq_true rfl)).trans Iff.rfl
/-- Planner.goOn -/
theorem e52 {d : Nat} {a : Nat} {x0 : Int32} {x1 : Int32} {x2 : Int32} {x3 : Int32} {x4 : Int32} {h : Hp} {Q : Option AV → Hp → Prop} : Wc d 52 [.inr (.inr (some a)), .inl x0, .inl x1, .inl x2, .inl x3, .inl x4] h Q ↔ Wp d 52 Bk52_0 [some (.inr (.inr (some a))), some (.inl x0), some (.inl x1), some (.inl x2), some (.inl x3), some (.inl x4), none, none, none, none, none] [] h Q := (Wc_d (Nat.le_of_ble_eq_true rfl)).trans Iff.rfl
/-- Planner.firstHour -/
theorem e53 {d : Nat} {a : Nat} {x0 : Int32} {x1 : Int32} {h : Hp} {Q : Option AV → Hp → Prop} : Wc d 53 [.inr (.inr (some a)), .inl x0, .inl x1] h Q ↔ Wp d 53 Bk53_0 [some (.inr (.inr (some a))), some (.inl x0), some (.inl x1)] [] h Q := (Wc_d (Nat.le_of_ble_eq_true rfl)).trans Iff.rfl
/-- Planner.keep -/
theorem e54 {d : Nat} {a : Nat} {x0 : Int32} {x1 : Int32} {x2 : Int32} {h : Hp} {Q : Option AV → Hp → Prop} : Wc d 54 [.inr (.inr (some a)), .inl x0, .inl x1, .inl x2] h Q ↔ Wp d 54 Bk54_0 [some (.inr (.inr (some a))), some (.inl x0), some (.inl x1), some (.inl x2), none] [] h Q := (Wc_d (Nat.le_of_ble_eq_true rfl)).trans Iff.rfl
/-- Sample.init -/
theorem e55 {d : Nat} {a : Nat} {x0 : Int32} {x1 : Int32} {x2 : Int32} {h : Hp} {Q : Option AV → Hp → Prop} : Wc d 55 [.inr (.inr (some a)), .inl x0, .inl x1, .inl x2] h Q ↔ Wp d 55 Bk55_0 [some (.inr (.inr (some a))), some (.inl x0), some (.inl x1), some (.inl x2)] [] h Q := (Wc_d (Nat.le_of_ble_eq_true rfl)).trans Iff.rfl
/-- Sheet.init -/
theorem e56 {d : Nat} {a : Nat} {h : Hp} {Q : Option AV → Hp → Prop} : Wc d 56 [.inr (.inr (some a))] h Q ↔ Wp d 56 Bk56_0 [some (.inr (.inr (some a)))] [] h Q := (Wc_d (Nat.le_of_ble_eq_true rfl)).trans Iff.rfl
/-- Sheet.has -/
theorem e57 {d : Nat} {a : Nat} {x0 : Int32} {h : Hp} {Q : Option AV → Hp → Prop} : Wc d 57 [.inr (.inr (some a)), .inl x0] h Q ↔ Wp d 57 Bk57_0 [some (.inr (.inr (some a))), some (.inl x0)] [] h Q := (Wc_d (Nat.le_of_ble_eq_true rfl)).trans Iff.rfl
/-- Sheet.refusalAs -/
theorem e58 {d : Nat} {a : Nat} {x0 : Int32} {h : Hp} {Q : Option AV → Hp → Prop} : Wc d 58 [.inr (.inr (some a)), .inl x0] h Q ↔ Wp d 58 Bk58_0 [some (.inr (.inr (some a))), some (.inl x0)] [] h Q := (Wc_d (Nat.le_of_ble_eq_true rfl)).trans Iff.rfl
/-- Station.init -/
theorem e59 {d : Nat} {a : Nat} {x0 : Int32} {x1 : Int32} {x2 : Int32} {x3 : Int32} {h : Hp} {Q : Option AV → Hp → Prop} : Wc d 59 [.inr (.inr (some a)), .inl x0, .inl x1, .inl x2, .inl x3] h Q ↔ Wp d 59 Bk59_0 [some (.inr (.inr (some a))), some (.inl x0), some (.inl x1), some (.inl x2), some (.inl x3)] [] h Q := (Wc_d (Nat.le_of_ble_eq_true rfl)).trans Iff.rfl
/-- Station.hoursFrom -/
theorem e60 {d : Nat} {a : Nat} {x0 : Int32} {x1 : Int32} {x2 : Int32} {h : Hp} {Q : Option AV → Hp → Prop} : Wc d 60 [.inr (.inr (some a)), .inl x0, .inl x1, .inl x2] h Q ↔ Wp d 60 Bk60_0 [some (.inr (.inr (some a))), some (.inl x0), some (.inl x1), some (.inl x2)] [] h Q := (Wc_d (Nat.le_of_ble_eq_true rfl)).trans Iff.rfl
/-- Station.lightSuits -/
theorem e61 {d : Nat} {a : Nat} {x0 : Int32} {h : Hp} {Q : Option AV → Hp → Prop} : Wc d 61 [.inr (.inr (some a)), .inl x0] h Q ↔ Wp d 61 Bk61_0 [some (.inr (.inr (some a))), some (.inl x0), none] [] h Q := (Wc_d (Nat.le_of_ble_eq_true rfl)).trans Iff.rfl
/-- C.init -/
theorem e62 {d : Nat} {a : Nat} {h : Hp} {Q : Option AV → Hp → Prop} : Wc d 62 [.inr (.inr (some a))] h Q ↔ Wp d 62 Bk62_0 [some (.inr (.inr (some a))), none] [] h Q := (Wc_d (Nat.le_of_ble_eq_true rfl)).trans Iff.rfl
/-- C.station -/
theorem e63 {d : Nat} {a : Nat} {x0 : Int32} {x1 : Int32} {x2 : Int32} {x3 : Int32} {h : Hp} {Q : Option AV → Hp → Prop} : Wc d 63 [.inr (.inr (some a)), .inl x0, .inl x1, .inl x2, .inl x3] h Q ↔ Wp d 63 Bk63_0 [some (.inr (.inr (some a))), some (.inl x0), some (.inl x1), some (.inl x2), some (.inl x3)] [] h Q := (Wc_d (Nat.le_of_ble_eq_true rfl)).trans Iff.rfl
/-- C.window -/
theorem e64 {d : Nat} {a : Nat} {x0 : Int32} {x1 : Int32} {x2 : Int32} {x3 : Int32} {h : Hp} {Q : Option AV → Hp → Prop} : Wc d 64 [.inr (.inr (some a)), .inl x0, .inl x1, .inl x2, .inl x3] h Q ↔ Wp d 64 Bk64_0 [some (.inr (.inr (some a))), some (.inl x0), some (.inl x1), some (.inl x2), some (.inl x3), none] [] h Q := (Wc_d (Nat.le_of_ble_eq_true rfl)).trans Iff.rfl
/-- C.ahead -/
theorem e65 {d : Nat} {a : Nat} {x0 : Int32} {x1 : Int32} {h : Hp} {Q : Option AV → Hp → Prop} : Wc d 65 [.inr (.inr (some a)), .inl x0, .inl x1] h Q ↔ Wp d 65 Bk65_0 [some (.inr (.inr (some a))), some (.inl x0), some (.inl x1), none, none, none] [] h Q := (Wc_d (Nat.le_of_ble_eq_true rfl)).trans Iff.rfl
/-- C.fit -/
theorem e66 {d : Nat} {a : Nat} {x0 : Int32} {x1 : Int32} {x2 : Int32} {h : Hp} {Q : Option AV → Hp → Prop} : Wc d 66 [.inr (.inr (some a)), .inl x0, .inl x1, .inl x2] h Q ↔ Wp d 66 Bk66_0 [some (.inr (.inr (some a))), some (.inl x0), some (.inl x1), some (.inl x2), none] [] h Q := (Wc_d (Nat.le_of_ble_eq_true rfl)).trans Iff.rfl
/-- C.speed -/
theorem e67 {d : Nat} {a : Nat} {x0 : Int32} {h : Hp} {Q : Option AV → Hp → Prop} : Wc d 67 [.inr (.inr (some a)), .inl x0] h Q ↔ Wp d 67 Bk67_0 [some (.inr (.inr (some a))), some (.inl x0), none] [] h Q := (Wc_d (Nat.le_of_ble_eq_true rfl)).trans Iff.rfl
/-- C.stationTold -/
theorem e68 {d : Nat} {a : Nat} {x0 : Int32} {x1 : Int32} {h : Hp} {Q : Option AV → Hp → Prop} : Wc d 68 [.inr (.inr (some a)), .inl x0, .inl x1] h Q ↔ Wp d 68 Bk68_0 [some (.inr (.inr (some a))), some (.inl x0), some (.inl x1), none] [] h Q := (Wc_d (Nat.le_of_ble_eq_true rfl)).trans Iff.rfl
/-- C.plan -/
theorem e69 {d : Nat} {a : Nat} {x0 : Int32} {h : Hp} {Q : Option AV → Hp → Prop} : Wc d 69 [.inr (.inr (some a)), .inl x0] h Q ↔ Wp d 69 Bk69_0 [some (.inr (.inr (some a))), some (.inl x0)] [] h Q := (Wc_d (Nat.le_of_ble_eq_true rfl)).trans Iff.rfl
/-- C.planned -/
theorem e70 {d : Nat} {a : Nat} {x0 : Int32} {x1 : Int32} {h : Hp} {Q : Option AV → Hp → Prop} : Wc d 70 [.inr (.inr (some a)), .inl x0, .inl x1] h Q ↔ Wp d 70 Bk70_0 [some (.inr (.inr (some a))), some (.inl x0), some (.inl x1)] [] h Q := (Wc_d (Nat.le_of_ble_eq_true rfl)).trans Iff.rfl
/-- C.planChanged -/
theorem e71 {d : Nat} {a : Nat} {x0 : Int32} {h : Hp} {Q : Option AV → Hp → Prop} : Wc d 71 [.inr (.inr (some a)), .inl x0] h Q ↔ Wp d 71 Bk71_0 [some (.inr (.inr (some a))), some (.inl x0)] [] h Q := (Wc_d (Nat.le_of_ble_eq_true rfl)).trans Iff.rfl
/-- C.workOutPlan -/
theorem e72 {d : Nat} {a : Nat} {h : Hp} {Q : Option AV → Hp → Prop} : Wc d 72 [.inr (.inr (some a))] h Q ↔ Wp d 72 Bk72_0 [some (.inr (.inr (some a))), none, none, none] [] h Q := (Wc_d (Nat.le_of_ble_eq_true rfl)).trans Iff.rfl
/-- C.hoursLasting -/
theorem e73 {d : Nat} {a : Nat} {x0 : Int32} {h : Hp} {Q : Option AV → Hp → Prop} : Wc d 73 [.inr (.inr (some a)), .inl x0] h Q ↔ Wp d 73 Bk73_0 [some (.inr (.inr (some a))), some (.inl x0), none, none, none] [] h Q := (Wc_d (Nat.le_of_ble_eq_true rfl)).trans Iff.rfl
/-- C.hoursFromNearest -/
theorem e74 {d : Nat} {a : Nat} {x0 : Int32} {h : Hp} {Q : Option AV → Hp → Prop} : Wc d 74 [.inr (.inr (some a)), .inl x0] h Q ↔ Wp d 74 Bk74_0 [some (.inr (.inr (some a))), some (.inl x0), none, none, none] [] h Q := (Wc_d (Nat.le_of_ble_eq_true rfl)).trans Iff.rfl
/-- C.hoursBetween -/
theorem e75 {d : Nat} {a : Nat} {x0 : Int32} {x1 : Int32} {h : Hp} {Q : Option AV → Hp → Prop} : Wc d 75 [.inr (.inr (some a)), .inl x0, .inl x1] h Q ↔ Wp d 75 Bk75_0 [some (.inr (.inr (some a))), some (.inl x0), some (.inl x1), none, none] [] h Q := (Wc_d (Nat.le_of_ble_eq_true rfl)).trans Iff.rfl
/-- C.fitCount -/
theorem e76 {d : Nat} {a : Nat} {h : Hp} {Q : Option AV → Hp → Prop} : Wc d 76 [.inr (.inr (some a))] h Q ↔ Wp d 76 Bk76_0 [some (.inr (.inr (some a))), none, none] [] h Q := (Wc_d (Nat.le_of_ble_eq_true rfl)).trans Iff.rfl
/-- C.cast -/
theorem e77 {d : Nat} {a : Nat} {x0 : Int32} {x1 : Int32} {x2 : Int32} {h : Hp} {Q : Option AV → Hp → Prop} : Wc d 77 [.inr (.inr (some a)), .inl x0, .inl x1, .inl x2] h Q ↔ Wp d 77 Bk77_0 [some (.inr (.inr (some a))), some (.inl x0), some (.inl x1), some (.inl x2), none, none] [] h Q := (Wc_d (Nat.le_of_ble_eq_true rfl)).trans Iff.rfl
/-- C.bottle -/
theorem e78 {d : Nat} {a : Nat} {x0 : Int32} {x1 : Int32} {h : Hp} {Q : Option AV → Hp → Prop} : Wc d 78 [.inr (.inr (some a)), .inl x0, .inl x1] h Q ↔ Wp d 78 Bk78_0 [some (.inr (.inr (some a))), some (.inl x0), some (.inl x1), none] [] h Q := (Wc_d (Nat.le_of_ble_eq_true rfl)).trans Iff.rfl
/-- C.fail -/
theorem e79 {d : Nat} {a : Nat} {x0 : Int32} {x1 : Int32} {h : Hp} {Q : Option AV → Hp → Prop} : Wc d 79 [.inr (.inr (some a)), .inl x0, .inl x1] h Q ↔ Wp d 79 Bk79_0 [some (.inr (.inr (some a))), some (.inl x0), some (.inl x1), none, none] [] h Q := (Wc_d (Nat.le_of_ble_eq_true rfl)).trans Iff.rfl
/-- C.does -/
theorem e80 {d : Nat} {a : Nat} {x0 : Int32} {h : Hp} {Q : Option AV → Hp → Prop} : Wc d 80 [.inr (.inr (some a)), .inl x0] h Q ↔ Wp d 80 Bk80_0 [some (.inr (.inr (some a))), some (.inl x0), none, none] [] h Q := (Wc_d (Nat.le_of_ble_eq_true rfl)).trans Iff.rfl
/-- C.rest -/
theorem e81 {d : Nat} {a : Nat} {x0 : Int32} {h : Hp} {Q : Option AV → Hp → Prop} : Wc d 81 [.inr (.inr (some a)), .inl x0] h Q ↔ Wp d 81 Bk81_0 [some (.inr (.inr (some a))), some (.inl x0)] [] h Q := (Wc_d (Nat.le_of_ble_eq_true rfl)).trans Iff.rfl
/-- C.takeUp -/
theorem e82 {d : Nat} {a : Nat} {x0 : Int32} {h : Hp} {Q : Option AV → Hp → Prop} : Wc d 82 [.inr (.inr (some a)), .inl x0] h Q ↔ Wp d 82 Bk82_0 [some (.inr (.inr (some a))), some (.inl x0), none] [] h Q := (Wc_d (Nat.le_of_ble_eq_true rfl)).trans Iff.rfl
/-- C.castTold -/
theorem e83 {d : Nat} {a : Nat} {x0 : Int32} {x1 : Int32} {h : Hp} {Q : Option AV → Hp → Prop} : Wc d 83 [.inr (.inr (some a)), .inl x0, .inl x1] h Q ↔ Wp d 83 Bk83_0 [some (.inr (.inr (some a))), some (.inl x0), some (.inl x1), none] [] h Q := (Wc_d (Nat.le_of_ble_eq_true rfl)).trans Iff.rfl
/-- C.bottleTold -/
theorem e84 {d : Nat} {a : Nat} {x0 : Int32} {x1 : Int32} {x2 : Int32} {h : Hp} {Q : Option AV → Hp → Prop} : Wc d 84 [.inr (.inr (some a)), .inl x0, .inl x1, .inl x2] h Q ↔ Wp d 84 Bk84_0 [some (.inr (.inr (some a))), some (.inl x0), some (.inl x1), some (.inl x2), none] [] h Q := (Wc_d (Nat.le_of_ble_eq_true rfl)).trans Iff.rfl
/-- C.leftCount -/
theorem e85 {d : Nat} {a : Nat} {h : Hp} {Q : Option AV → Hp → Prop} : Wc d 85 [.inr (.inr (some a))] h Q ↔ Wp d 85 Bk85_0 [some (.inr (.inr (some a))), none, none] [] h Q := (Wc_d (Nat.le_of_ble_eq_true rfl)).trans Iff.rfl
/-- C.hand -/
theorem e86 {d : Nat} {a : Nat} {x0 : Int32} {h : Hp} {Q : Option AV → Hp → Prop} : Wc d 86 [.inr (.inr (some a)), .inl x0] h Q ↔ Wp d 86 Bk86_0 [some (.inr (.inr (some a))), some (.inl x0)] [] h Q := (Wc_d (Nat.le_of_ble_eq_true rfl)).trans Iff.rfl
/-- C.feed -/
theorem e87 {d : Nat} {a : Nat} {x0 : Int32} {x1 : Int64} {h : Hp} {Q : Option AV → Hp → Prop} : Wc d 87 [.inr (.inr (some a)), .inl x0, .inr (.inl x1)] h Q ↔ Wp d 87 Bk87_0 [some (.inr (.inr (some a))), some (.inl x0), some (.inr (.inl x1)), none, none] [] h Q := (Wc_d (Nat.le_of_ble_eq_true rfl)).trans Iff.rfl
/-- C.lines -/
theorem e88 {d : Nat} {a : Nat} {x0 : Int32} {h : Hp} {Q : Option AV → Hp → Prop} : Wc d 88 [.inr (.inr (some a)), .inl x0] h Q ↔ Wp d 88 Bk88_0 [some (.inr (.inr (some a))), some (.inl x0), none] [] h Q := (Wc_d (Nat.le_of_ble_eq_true rfl)).trans Iff.rfl
/-- C.fault -/
theorem e89 {d : Nat} {a : Nat} {x0 : Int32} {h : Hp} {Q : Option AV → Hp → Prop} : Wc d 89 [.inr (.inr (some a)), .inl x0] h Q ↔ Wp d 89 Bk89_0 [some (.inr (.inr (some a))), some (.inl x0)] [] h Q := (Wc_d (Nat.le_of_ble_eq_true rfl)).trans Iff.rfl
/-- C.lineCount -/
theorem e90 {d : Nat} {a : Nat} {h : Hp} {Q : Option AV → Hp → Prop} : Wc d 90 [.inr (.inr (some a))] h Q ↔ Wp d 90 Bk90_0 [some (.inr (.inr (some a))), none, none] [] h Q := (Wc_d (Nat.le_of_ble_eq_true rfl)).trans Iff.rfl
/-- C.use -/
theorem e91 {d : Nat} {a : Nat} {x0 : Int32} {x1 : Int32} {h : Hp} {Q : Option AV → Hp → Prop} : Wc d 91 [.inr (.inr (some a)), .inl x0, .inl x1] h Q ↔ Wp d 91 Bk91_0 [some (.inr (.inr (some a))), some (.inl x0), some (.inl x1), none] [] h Q := (Wc_d (Nat.le_of_ble_eq_true rfl)).trans Iff.rfl
/-- C.sample -/
theorem e92 {d : Nat} {a : Nat} {x0 : Int32} {x1 : Int32} {h : Hp} {Q : Option AV → Hp → Prop} : Wc d 92 [.inr (.inr (some a)), .inl x0, .inl x1] h Q ↔ Wp d 92 Bk92_0 [some (.inr (.inr (some a))), some (.inl x0), some (.inl x1), none, none, none] [] h Q := (Wc_d (Nat.le_of_ble_eq_true rfl)).trans Iff.rfl
/-- C.box -/
theorem e93 {d : Nat} {a : Nat} {x0 : Int32} {x1 : Int32} {h : Hp} {Q : Option AV → Hp → Prop} : Wc d 93 [.inr (.inr (some a)), .inl x0, .inl x1] h Q ↔ Wp d 93 Bk93_0 [some (.inr (.inr (some a))), some (.inl x0), some (.inl x1)] [] h Q := (Wc_d (Nat.le_of_ble_eq_true rfl)).trans Iff.rfl
/-- C.water -/
theorem e94 {d : Nat} {a : Nat} {x0 : Int32} {x1 : Int32} {h : Hp} {Q : Option AV → Hp → Prop} : Wc d 94 [.inr (.inr (some a)), .inl x0, .inl x1] h Q ↔ Wp d 94 Bk94_0 [some (.inr (.inr (some a))), some (.inl x0), some (.inl x1), none, none, none] [] h Q := (Wc_d (Nat.le_of_ble_eq_true rfl)).trans Iff.rfl
/-- C.partWater -/
theorem e95 {d : Nat} {a : Nat} {x0 : Option Nat} {x1 : Int32} {h : Hp} {Q : Option AV → Hp → Prop} : Wc d 95 [.inr (.inr (some a)), .inr (.inr x0), .inl x1] h Q ↔ Wp d 95 Bk95_0 [some (.inr (.inr (some a))), some (.inr (.inr x0)), some (.inl x1), none, none] [] h Q := (Wc_d (Nat.le_of_ble_eq_true rfl)).trans Iff.rfl
/-- C.takeWater -/
theorem e96 {d : Nat} {a : Nat} {x0 : Option Nat} {x1 : Int32} {x2 : Int32} {h : Hp} {Q : Option AV → Hp → Prop} : Wc d 96 [.inr (.inr (some a)), .inr (.inr x0), .inl x1, .inl x2] h Q ↔ Wp d 96 Bk96_0 [some (.inr (.inr (some a))), some (.inr (.inr x0)), some (.inl x1), some (.inl x2), none, none, none, none] [] h Q := (Wc_d (Nat.le_of_ble_eq_true rfl)).trans Iff.rfl
/-- C.firstFreePlace -/
theorem e97 {d : Nat} {a : Nat} {h : Hp} {Q : Option AV → Hp → Prop} : Wc d 97 [.inr (.inr (some a))] h Q ↔ Wp d 97 Bk97_0 [some (.inr (.inr (some a))), none] [] h Q := (Wc_d (Nat.le_of_ble_eq_true rfl)).trans Iff.rfl
/-- C.keptCount -/
theorem e98 {d : Nat} {a : Nat} {h : Hp} {Q : Option AV → Hp → Prop} : Wc d 98 [.inr (.inr (some a))] h Q ↔ Wp d 98 Bk98_0 [some (.inr (.inr (some a))), none, none] [] h Q := (Wc_d (Nat.le_of_ble_eq_true rfl)).trans Iff.rfl
/-- C.sheet -/
theorem e99 {d : Nat} {a : Nat} {x0 : Int32} {x1 : Int32} {x2 : Int32} {h : Hp} {Q : Option AV → Hp → Prop} : Wc d 99 [.inr (.inr (some a)), .inl x0, .inl x1, .inl x2] h Q ↔ Wp d 99 Bk99_0 [some (.inr (.inr (some a))), some (.inl x0), some (.inl x1), some (.inl x2), none] [] h Q := (Wc_d (Nat.le_of_ble_eq_true rfl)).trans Iff.rfl
/-- C.cell -/
theorem e100 {d : Nat} {a : Nat} {x0 : Int32} {x1 : Int32} {x2 : Int32} {h : Hp} {Q : Option AV → Hp → Prop} : Wc d 100 [.inr (.inr (some a)), .inl x0, .inl x1, .inl x2] h Q ↔ Wp d 100 Bk100_0 [some (.inr (.inr (some a))), some (.inl x0), some (.inl x1), some (.inl x2), none] [] h Q := (Wc_d (Nat.le_of_ble_eq_true rfl)).trans Iff.rfl
/-- C.none -/
theorem e101 {d : Nat} {a : Nat} {x0 : Int32} {x1 : Int32} {h : Hp} {Q : Option AV → Hp → Prop} : Wc d 101 [.inr (.inr (some a)), .inl x0, .inl x1] h Q ↔ Wp d 101 Bk101_0 [some (.inr (.inr (some a))), some (.inl x0), some (.inl x1), none, none] [] h Q := (Wc_d (Nat.le_of_ble_eq_true rfl)).trans Iff.rfl
/-- C.readings -/
theorem e102 {d : Nat} {a : Nat} {x0 : Int32} {x1 : Int32} {h : Hp} {Q : Option AV → Hp → Prop} : Wc d 102 [.inr (.inr (some a)), .inl x0, .inl x1] h Q ↔ Wp d 102 Bk102_0 [some (.inr (.inr (some a))), some (.inl x0), some (.inl x1), none, none, none] [] h Q := (Wc_d (Nat.le_of_ble_eq_true rfl)).trans Iff.rfl
/-- C.mean -/
theorem e103 {d : Nat} {a : Nat} {x0 : Int32} {x1 : Int32} {x2 : Int32} {x3 : Int32} {h : Hp} {Q : Option AV → Hp → Prop} : Wc d 103 [.inr (.inr (some a)), .inl x0, .inl x1, .inl x2, .inl x3] h Q ↔ Wp d 103 Bk103_0 [some (.inr (.inr (some a))), some (.inl x0), some (.inl x1), some (.inl x2), some (.inl x3), none, none, none, none, none] [] h Q := (Wc_d (Nat.le_of_ble_eq_true rfl)).trans Iff.rfl
/-- C.count -/
theorem e104 {d : Nat} {a : Nat} {x0 : Int32} {h : Hp} {Q : Option AV → Hp → Prop} : Wc d 104 [.inr (.inr (some a)), .inl x0] h Q ↔ Wp d 104 Bk104_0 [some (.inr (.inr (some a))), some (.inl x0)] [] h Q := (Wc_d (Nat.le_of_ble_eq_true rfl)).trans Iff.rfl
/-- C.act -/
theorem e105 {d : Nat} {a : Nat} {x0 : Int32} {x1 : Int32} {x2 : Int32} {h : Hp} {Q : Option AV → Hp → Prop} : Wc d 105 [.inr (.inr (some a)), .inl x0, .inl x1, .inl x2] h Q ↔ Wp d 105 Bk105_0 [some (.inr (.inr (some a))), some (.inl x0), some (.inl x1), some (.inl x2), none] [] h Q := (Wc_d (Nat.le_of_ble_eq_true rfl)).trans Iff.rfl
/-- C.trace -/
theorem e106 {d : Nat} {a : Nat} {x0 : Int32} {h : Hp} {Q : Option AV → Hp → Prop} : Wc d 106 [.inr (.inr (some a)), .inl x0] h Q ↔ Wp d 106 Bk106_0 [some (.inr (.inr (some a))), some (.inl x0)] [] h Q := (Wc_d (Nat.le_of_ble_eq_true rfl)).trans Iff.rfl
/-- C.forge -/
theorem e107 {d : Nat} {a : Nat} {x0 : Int32} {x1 : Int32} {x2 : Int32} {h : Hp} {Q : Option AV → Hp → Prop} : Wc d 107 [.inr (.inr (some a)), .inl x0, .inl x1, .inl x2] h Q ↔ Wp d 107 Bk107_0 [some (.inr (.inr (some a))), some (.inl x0), some (.inl x1), some (.inl x2)] [] h Q := (Wc_d (Nat.le_of_ble_eq_true rfl)).trans Iff.rfl
/-- C.status -/
theorem e108 {d : Nat} {a : Nat} {h : Hp} {Q : Option AV → Hp → Prop} : Wc d 108 [.inr (.inr (some a))] h Q ↔ Wp d 108 Bk108_0 [some (.inr (.inr (some a)))] [] h Q := (Wc_d (Nat.le_of_ble_eq_true rfl)).trans Iff.rfl
/-- C.forgeKind -/
theorem e109 {d : Nat} {a : Nat} {x0 : Int32} {x1 : Option Nat} {h : Hp} {Q : Option AV → Hp → Prop} : Wc d 109 [.inr (.inr (some a)), .inl x0, .inr (.inr x1)] h Q ↔ Wp d 109 Bk109_0 [some (.inr (.inr (some a))), some (.inl x0), some (.inr (.inr x1))] [] h Q := (Wc_d (Nat.le_of_ble_eq_true rfl)).trans Iff.rfl
/-- C.forgeShort -/
theorem e110 {d : Nat} {a : Nat} {x0 : Int32} {x1 : Option Nat} {h : Hp} {Q : Option AV → Hp → Prop} : Wc d 110 [.inr (.inr (some a)), .inl x0, .inr (.inr x1)] h Q ↔ Wp d 110 Bk110_0 [some (.inr (.inr (some a))), some (.inl x0), some (.inr (.inr x1)), none] [] h Q := (Wc_d (Nat.le_of_ble_eq_true rfl)).trans Iff.rfl
/-- C.forgeCopy -/
theorem e111 {d : Nat} {a : Nat} {x0 : Int32} {x1 : Option Nat} {h : Hp} {Q : Option AV → Hp → Prop} : Wc d 111 [.inr (.inr (some a)), .inl x0, .inr (.inr x1)] h Q ↔ Wp d 111 Bk111_0 [some (.inr (.inr (some a))), some (.inl x0), some (.inr (.inr x1)), none, none, none] [] h Q := (Wc_d (Nat.le_of_ble_eq_true rfl)).trans Iff.rfl
/-- C.forgeCoreRow -/
theorem e112 {d : Nat} {a : Nat} {x0 : Option Nat} {h : Hp} {Q : Option AV → Hp → Prop} : Wc d 112 [.inr (.inr (some a)), .inr (.inr x0)] h Q ↔ Wp d 112 Bk112_0 [some (.inr (.inr (some a))), some (.inr (.inr x0))] [] h Q := (Wc_d (Nat.le_of_ble_eq_true rfl)).trans Iff.rfl
/-- C.done -/
theorem e113 {d : Nat} {a : Nat} {x0 : Int32} {h : Hp} {Q : Option AV → Hp → Prop} : Wc d 113 [.inr (.inr (some a)), .inl x0] h Q ↔ Wp d 113 Bk113_0 [some (.inr (.inr (some a))), some (.inl x0)] [] h Q := (Wc_d (Nat.le_of_ble_eq_true rfl)).trans Iff.rfl
/-- C.refused -/
theorem e114 {d : Nat} {a : Nat} {x0 : Int32} {h : Hp} {Q : Option AV → Hp → Prop} : Wc d 114 [.inr (.inr (some a)), .inl x0] h Q ↔ Wp d 114 Bk114_0 [some (.inr (.inr (some a))), some (.inl x0)] [] h Q := (Wc_d (Nat.le_of_ble_eq_true rfl)).trans Iff.rfl
/-- C.stationAt -/
theorem e115 {d : Nat} {a : Nat} {x0 : Int32} {h : Hp} {Q : Option AV → Hp → Prop} : Wc d 115 [.inr (.inr (some a)), .inl x0] h Q ↔ Wp d 115 Bk115_0 [some (.inr (.inr (some a))), some (.inl x0)] [] h Q := (Wc_d (Nat.le_of_ble_eq_true rfl)).trans Iff.rfl
/-- C.castAt -/
theorem e116 {d : Nat} {a : Nat} {x0 : Int32} {h : Hp} {Q : Option AV → Hp → Prop} : Wc d 116 [.inr (.inr (some a)), .inl x0] h Q ↔ Wp d 116 Bk116_0 [some (.inr (.inr (some a))), some (.inl x0)] [] h Q := (Wc_d (Nat.le_of_ble_eq_true rfl)).trans Iff.rfl
/-- C.handAt -/
theorem e117 {d : Nat} {a : Nat} {x0 : Int32} {h : Hp} {Q : Option AV → Hp → Prop} : Wc d 117 [.inr (.inr (some a)), .inl x0] h Q ↔ Wp d 117 Bk117_0 [some (.inr (.inr (some a))), some (.inl x0)] [] h Q := (Wc_d (Nat.le_of_ble_eq_true rfl)).trans Iff.rfl
/-- C.sampleAt -/
theorem e118 {d : Nat} {a : Nat} {x0 : Int32} {h : Hp} {Q : Option AV → Hp → Prop} : Wc d 118 [.inr (.inr (some a)), .inl x0] h Q ↔ Wp d 118 Bk118_0 [some (.inr (.inr (some a))), some (.inl x0)] [] h Q := (Wc_d (Nat.le_of_ble_eq_true rfl)).trans Iff.rfl
/-- C.sheetAt -/
theorem e119 {d : Nat} {a : Nat} {x0 : Int32} {h : Hp} {Q : Option AV → Hp → Prop} : Wc d 119 [.inr (.inr (some a)), .inl x0] h Q ↔ Wp d 119 Bk119_0 [some (.inr (.inr (some a))), some (.inl x0)] [] h Q := (Wc_d (Nat.le_of_ble_eq_true rfl)).trans Iff.rfl
/-- C.bottleAt -/
theorem e120 {d : Nat} {x0 : Option Nat} {x1 : Int32} {h : Hp} {Q : Option AV → Hp → Prop} : Wc d 120 [.inr (.inr x0), .inl x1] h Q ↔ Wp d 120 Bk120_0 [some (.inr (.inr x0)), some (.inl x1)] [] h Q := (Wc_d (Nat.le_of_ble_eq_true rfl)).trans Iff.rfl
/-- C.within -/
theorem e121 {d : Nat} {x0 : Int32} {x1 : Int32} {x2 : Int32} {h : Hp} {Q : Option AV → Hp → Prop} : Wc d 121 [.inl x0, .inl x1, .inl x2] h Q ↔ Wp d 121 Bk121_0 [some (.inl x0), some (.inl x1), some (.inl x2)] [] h Q := (Wc_d (Nat.le_of_ble_eq_true rfl)).trans Iff.rfl
/-- C.roundedUp -/
theorem e122 {d : Nat} {x0 : Int32} {x1 : Int32} {h : Hp} {Q : Option AV → Hp → Prop} : Wc d 122 [.inl x0, .inl x1] h Q ↔ Wp d 122 Bk122_0 [some (.inl x0), some (.inl x1)] [] h Q := (Wc_d (Nat.le_of_ble_eq_true rfl)).trans Iff.rfl
/-- C.isUnder -/
theorem e123 {d : Nat} {x0 : Int32} {x1 : Int32} {h : Hp} {Q : Option AV → Hp → Prop} : Wc d 123 [.inl x0, .inl x1] h Q ↔ Wp d 123 Bk123_0 [some (.inl x0), some (.inl x1), none, none] [] h Q := (Wc_d (Nat.le_of_ble_eq_true rfl)).trans Iff.rfl
/-- C.kindAbove -/
theorem e124 {d : Nat} {x0 : Int32} {h : Hp} {Q : Option AV → Hp → Prop} : Wc d 124 [.inl x0] h Q ↔ Wp d 124 Bk124_0 [some (.inl x0)] [] h Q := (Wc_d (Nat.le_of_ble_eq_true rfl)).trans Iff.rfl
/-- C.commonDivisor -/
theorem e125 {d : Nat} {x0 : Int32} {x1 : Int32} {h : Hp} {Q : Option AV → Hp → Prop} : Wc d 125 [.inl x0, .inl x1] h Q ↔ Wp d 125 Bk125_0 [some (.inl x0), some (.inl x1), none, none, none, none] [] h Q := (Wc_d (Nat.le_of_ble_eq_true rfl)).trans Iff.rfl
/-- M.init -/
theorem e126 {d : Nat} {a : Nat} {h : Hp} {Q : Option AV → Hp → Prop} : Wc d 126 [.inr (.inr (some a))] h Q ↔ Wp d 126 Bk126_0 [some (.inr (.inr (some a))), none] [] h Q := (Wc_d (Nat.le_of_ble_eq_true rfl)).trans Iff.rfl
/-- M.in -/
theorem e127 {d : Nat} {x0 : Int32} {x1 : Int32} {x2 : Int32} {h : Hp} {Q : Option AV → Hp → Prop} : Wc d 127 [.inl x0, .inl x1, .inl x2] h Q ↔ Wp d 127 Bk127_0 [some (.inl x0), some (.inl x1), some (.inl x2)] [] h Q := (Wc_d (Nat.le_of_ble_eq_true rfl)).trans Iff.rfl
/-- M.refused -/
theorem e128 {d : Nat} {a : Nat} {x0 : Int32} {h : Hp} {Q : Option AV → Hp → Prop} : Wc d 128 [.inr (.inr (some a)), .inl x0] h Q ↔ Wp d 128 Bk128_0 [some (.inr (.inr (some a))), some (.inl x0)] [] h Q := (Wc_d (Nat.le_of_ble_eq_true rfl)).trans Iff.rfl
/-- M.done -/
theorem e129 {d : Nat} {a : Nat} {x0 : Int32} {h : Hp} {Q : Option AV → Hp → Prop} : Wc d 129 [.inr (.inr (some a)), .inl x0] h Q ↔ Wp d 129 Bk129_0 [some (.inr (.inr (some a))), some (.inl x0)] [] h Q := (Wc_d (Nat.le_of_ble_eq_true rfl)).trans Iff.rfl
/-- M.changed -/
theorem e130 {d : Nat} {a : Nat} {x0 : Int32} {h : Hp} {Q : Option AV → Hp → Prop} : Wc d 130 [.inr (.inr (some a)), .inl x0] h Q ↔ Wp d 130 Bk130_0 [some (.inr (.inr (some a))), some (.inl x0)] [] h Q := (Wc_d (Nat.le_of_ble_eq_true rfl)).trans Iff.rfl
/-- M.isStation -/
theorem e131 {d : Nat} {a : Nat} {x0 : Int32} {h : Hp} {Q : Option AV → Hp → Prop} : Wc d 131 [.inr (.inr (some a)), .inl x0] h Q ↔ Wp d 131 Bk131_0 [some (.inr (.inr (some a))), some (.inl x0)] [] h Q := (Wc_d (Nat.le_of_ble_eq_true rfl)).trans Iff.rfl
/-- M.isCast -/
theorem e132 {d : Nat} {a : Nat} {x0 : Int32} {h : Hp} {Q : Option AV → Hp → Prop} : Wc d 132 [.inr (.inr (some a)), .inl x0] h Q ↔ Wp d 132 Bk132_0 [some (.inr (.inr (some a))), some (.inl x0)] [] h Q := (Wc_d (Nat.le_of_ble_eq_true rfl)).trans Iff.rfl
/-- M.isHand -/
theorem e133 {d : Nat} {a : Nat} {x0 : Int32} {h : Hp} {Q : Option AV → Hp → Prop} : Wc d 133 [.inr (.inr (some a)), .inl x0] h Q ↔ Wp d 133 Bk133_0 [some (.inr (.inr (some a))), some (.inl x0)] [] h Q := (Wc_d (Nat.le_of_ble_eq_true rfl)).trans Iff.rfl
/-- M.up -/
theorem e134 {d : Nat} {x0 : Int32} {x1 : Int32} {h : Hp} {Q : Option AV → Hp → Prop} : Wc d 134 [.inl x0, .inl x1] h Q ↔ Wp d 134 Bk134_0 [some (.inl x0), some (.inl x1)] [] h Q := (Wc_d (Nat.le_of_ble_eq_true rfl)).trans Iff.rfl
/-- M.station -/
theorem e135 {d : Nat} {a : Nat} {x0 : Int32} {x1 : Int32} {x2 : Int32} {x3 : Int32} {h : Hp} {Q : Option AV → Hp → Prop} : Wc d 135 [.inr (.inr (some a)), .inl x0, .inl x1, .inl x2, .inl x3] h Q ↔ Wp d 135 Bk135_0 [some (.inr (.inr (some a))), some (.inl x0), some (.inl x1), some (.inl x2), some (.inl x3)] [] h Q := (Wc_d (Nat.le_of_ble_eq_true rfl)).trans Iff.rfl
/-- M.window -/
theorem e136 {d : Nat} {a : Nat} {x0 : Int32} {x1 : Int32} {x2 : Int32} {x3 : Int32} {h : Hp} {Q : Option AV → Hp → Prop} : Wc d 136 [.inr (.inr (some a)), .inl x0, .inl x1, .inl x2, .inl x3] h Q ↔ Wp d 136 Bk136_0 [some (.inr (.inr (some a))), some (.inl x0), some (.inl x1), some (.inl x2), some (.inl x3)] [] h Q := (Wc_d (Nat.le_of_ble_eq_true rfl)).trans Iff.rfl
/-- M.ahead -/
theorem e137 {d : Nat} {a : Nat} {x0 : Int32} {x1 : Int32} {h : Hp} {Q : Option AV → Hp → Prop} : Wc d 137 [.inr (.inr (some a)), .inl x0, .inl x1] h Q ↔ Wp d 137 Bk137_0 [some (.inr (.inr (some a))), some (.inl x0), some (.inl x1), none] [] h Q := (Wc_d (Nat.le_of_ble_eq_true rfl)).trans Iff.rfl
/-- M.fitHours -/
theorem e138 {d : Nat} {a : Nat} {h : Hp} {Q : Option AV → Hp → Prop} : Wc d 138 [.inr (.inr (some a))] h Q ↔ Wp d 138 Bk138_0 [some (.inr (.inr (some a))), none, none] [] h Q := (Wc_d (Nat.le_of_ble_eq_true rfl)).trans Iff.rfl
/-- M.fit -/
theorem e139 {d : Nat} {a : Nat} {x0 : Int32} {x1 : Int32} {x2 : Int32} {h : Hp} {Q : Option AV → Hp → Prop} : Wc d 139 [.inr (.inr (some a)), .inl x0, .inl x1, .inl x2] h Q ↔ Wp d 139 Bk139_0 [some (.inr (.inr (some a))), some (.inl x0), some (.inl x1), some (.inl x2), none] [] h Q := (Wc_d (Nat.le_of_ble_eq_true rfl)).trans Iff.rfl
/-- M.speed -/
theorem e140 {d : Nat} {a : Nat} {x0 : Int32} {h : Hp} {Q : Option AV → Hp → Prop} : Wc d 140 [.inr (.inr (some a)), .inl x0] h Q ↔ Wp d 140 Bk140_0 [some (.inr (.inr (some a))), some (.inl x0), none] [] h Q := (Wc_d (Nat.le_of_ble_eq_true rfl)).trans Iff.rfl
/-- M.cast -/
theorem e141 {d : Nat} {a : Nat} {x0 : Int32} {x1 : Int32} {x2 : Int32} {h : Hp} {Q : Option AV → Hp → Prop} : Wc d 141 [.inr (.inr (some a)), .inl x0, .inl x1, .inl x2] h Q ↔ Wp d 141 Bk141_0 [some (.inr (.inr (some a))), some (.inl x0), some (.inl x1), some (.inl x2), none] [] h Q := (Wc_d (Nat.le_of_ble_eq_true rfl)).trans Iff.rfl
/-- M.bottle -/
theorem e142 {d : Nat} {a : Nat} {x0 : Int32} {x1 : Int32} {h : Hp} {Q : Option AV → Hp → Prop} : Wc d 142 [.inr (.inr (some a)), .inl x0, .inl x1] h Q ↔ Wp d 142 Bk142_0 [some (.inr (.inr (some a))), some (.inl x0), some (.inl x1), none, none] [] h Q := (Wc_d (Nat.le_of_ble_eq_true rfl)).trans Iff.rfl
/-- M.fail -/
theorem e143 {d : Nat} {a : Nat} {x0 : Int32} {x1 : Int32} {h : Hp} {Q : Option AV → Hp → Prop} : Wc d 143 [.inr (.inr (some a)), .inl x0, .inl x1] h Q ↔ Wp d 143 Bk143_0 [some (.inr (.inr (some a))), some (.inl x0), some (.inl x1), none] [] h Q := (Wc_d (Nat.le_of_ble_eq_true rfl)).trans Iff.rfl
/-- M.hand -/
theorem e144 {d : Nat} {a : Nat} {x0 : Int32} {h : Hp} {Q : Option AV → Hp → Prop} : Wc d 144 [.inr (.inr (some a)), .inl x0] h Q ↔ Wp d 144 Bk144_0 [some (.inr (.inr (some a))), some (.inl x0)] [] h Q := (Wc_d (Nat.le_of_ble_eq_true rfl)).trans Iff.rfl
/-- M.feed -/
theorem e145 {d : Nat} {a : Nat} {x0 : Int32} {x1 : Int64} {h : Hp} {Q : Option AV → Hp → Prop} : Wc d 145 [.inr (.inr (some a)), .inl x0, .inr (.inl x1)] h Q ↔ Wp d 145 Bk145_0 [some (.inr (.inr (some a))), some (.inl x0), some (.inr (.inl x1)), none, none] [] h Q := (Wc_d (Nat.le_of_ble_eq_true rfl)).trans Iff.rfl
/-- M.byteAt -/
theorem e146 {d : Nat} {a : Nat} {x0 : Int32} {h : Hp} {Q : Option AV → Hp → Prop} : Wc d 146 [.inr (.inr (some a)), .inl x0] h Q ↔ Wp d 146 Bk146_0 [some (.inr (.inr (some a))), some (.inl x0)] [] h Q := (Wc_d (Nat.le_of_ble_eq_true rfl)).trans Iff.rfl
/-- M.isLetter -/
theorem e147 {d : Nat} {x0 : Int32} {h : Hp} {Q : Option AV → Hp → Prop} : Wc d 147 [.inl x0] h Q ↔ Wp d 147 Bk147_0 [some (.inl x0)] [] h Q := (Wc_d (Nat.le_of_ble_eq_true rfl)).trans Iff.rfl
/-- M.isDigit -/
theorem e148 {d : Nat} {x0 : Int32} {h : Hp} {Q : Option AV → Hp → Prop} : Wc d 148 [.inl x0] h Q ↔ Wp d 148 Bk148_0 [some (.inl x0)] [] h Q := (Wc_d (Nat.le_of_ble_eq_true rfl)).trans Iff.rfl
/-- M.cannot -/
theorem e149 {d : Nat} {a : Nat} {h : Hp} {Q : Option AV → Hp → Prop} : Wc d 149 [.inr (.inr (some a))] h Q ↔ Wp d 149 Bk149_0 [some (.inr (.inr (some a)))] [] h Q := (Wc_d (Nat.le_of_ble_eq_true rfl)).trans Iff.rfl
/-- M.next -/
theorem e150 {d : Nat} {a : Nat} {h : Hp} {Q : Option AV → Hp → Prop} : Wc d 150 [.inr (.inr (some a))] h Q ↔ Wp d 150 Bk150_0 [some (.inr (.inr (some a))), none] [] h Q := (Wc_d (Nat.le_of_ble_eq_true rfl)).trans Iff.rfl
/-- M.digits -/
theorem e151 {d : Nat} {a : Nat} {h : Hp} {Q : Option AV → Hp → Prop} : Wc d 151 [.inr (.inr (some a))] h Q ↔ Wp d 151 Bk151_0 [some (.inr (.inr (some a)))] [] h Q := (Wc_d (Nat.le_of_ble_eq_true rfl)).trans Iff.rfl
/-- M.word -/
theorem e152 {d : Nat} {x0 : Int32} {x1 : Int32} {x2 : Int32} {h : Hp} {Q : Option AV → Hp → Prop} : Wc d 152 [.inl x0, .inl x1, .inl x2] h Q ↔ Wp d 152 Bk152_0 [some (.inl x0), some (.inl x1), some (.inl x2)] [] h Q := (Wc_d (Nat.le_of_ble_eq_true rfl)).trans Iff.rfl
/-- M.three -/
theorem e153 {d : Nat} {x0 : Int32} {x1 : Int32} {x2 : Int32} {h : Hp} {Q : Option AV → Hp → Prop} : Wc d 153 [.inl x0, .inl x1, .inl x2] h Q ↔ Wp d 153 Bk153_0 [some (.inl x0), some (.inl x1), some (.inl x2)] [] h Q := (Wc_d (Nat.le_of_ble_eq_true rfl)).trans Iff.rfl
/-- M.keyOf -/
theorem e154 {d : Nat} {x0 : Int64} {h : Hp} {Q : Option AV → Hp → Prop} : Wc d 154 [.inr (.inl x0)] h Q ↔ Wp d 154 Bk154_0 [some (.inr (.inl x0)), none, none] [] h Q := (Wc_d (Nat.le_of_ble_eq_true rfl)).trans Iff.rfl
/-- M.letters -/
theorem e155 {d : Nat} {a : Nat} {h : Hp} {Q : Option AV → Hp → Prop} : Wc d 155 [.inr (.inr (some a))] h Q ↔ Wp d 155 Bk155_0 [some (.inr (.inr (some a))), none, none] [] h Q := (Wc_d (Nat.le_of_ble_eq_true rfl)).trans Iff.rfl
/-- M.isKey -/
theorem e156 {d : Nat} {a : Nat} {x0 : Int32} {h : Hp} {Q : Option AV → Hp → Prop} : Wc d 156 [.inr (.inr (some a)), .inl x0] h Q ↔ Wp d 156 Bk156_0 [some (.inr (.inr (some a))), some (.inl x0)] [] h Q := (Wc_d (Nat.le_of_ble_eq_true rfl)).trans Iff.rfl
/-- M.isSign -/
theorem e157 {d : Nat} {a : Nat} {x0 : Int32} {h : Hp} {Q : Option AV → Hp → Prop} : Wc d 157 [.inr (.inr (some a)), .inl x0] h Q ↔ Wp d 157 Bk157_0 [some (.inr (.inr (some a))), some (.inl x0)] [] h Q := (Wc_d (Nat.le_of_ble_eq_true rfl)).trans Iff.rfl
/-- M.need -/
theorem e158 {d : Nat} {a : Nat} {x0 : Int32} {h : Hp} {Q : Option AV → Hp → Prop} : Wc d 158 [.inr (.inr (some a)), .inl x0] h Q ↔ Wp d 158 Bk158_0 [some (.inr (.inr (some a))), some (.inl x0)] [] h Q := (Wc_d (Nat.le_of_ble_eq_true rfl)).trans Iff.rfl
/-- M.put -/
theorem e159 {d : Nat} {a : Nat} {x0 : Int32} {x1 : Int32} {x2 : Int32} {h : Hp} {Q : Option AV → Hp → Prop} : Wc d 159 [.inr (.inr (some a)), .inl x0, .inl x1, .inl x2] h Q ↔ Wp d 159 Bk159_0 [some (.inr (.inr (some a))), some (.inl x0), some (.inl x1), some (.inl x2)] [] h Q := (Wc_d (Nat.le_of_ble_eq_true rfl)).trans Iff.rfl
/-- M.or -/
theorem e160 {d : Nat} {x0 : Option Nat} {h : Hp} {Q : Option AV → Hp → Prop} : Wc d 160 [.inr (.inr x0)] h Q ↔ Wp d 160 Bk160_0 [some (.inr (.inr x0))] [] h Q := (Wc_d (Nat.le_of_ble_eq_true rfl)).trans Iff.rfl
/-- M.and -/
theorem e161 {d : Nat} {x0 : Option Nat} {h : Hp} {Q : Option AV → Hp → Prop} : Wc d 161 [.inr (.inr x0)] h Q ↔ Wp d 161 Bk161_0 [some (.inr (.inr x0))] [] h Q := (Wc_d (Nat.le_of_ble_eq_true rfl)).trans Iff.rfl
/-- M.not -/
theorem e162 {d : Nat} {x0 : Option Nat} {h : Hp} {Q : Option AV → Hp → Prop} : Wc d 162 [.inr (.inr x0)] h Q ↔ Wp d 162 Bk162_0 [some (.inr (.inr x0))] [] h Q := (Wc_d (Nat.le_of_ble_eq_true rfl)).trans Iff.rfl
/-- M.compared -/
theorem e163 {d : Nat} {a : Nat} {h : Hp} {Q : Option AV → Hp → Prop} : Wc d 163 [.inr (.inr (some a))] h Q ↔ Wp d 163 Bk163_0 [some (.inr (.inr (some a))), none, none, none] [] h Q := (Wc_d (Nat.le_of_ble_eq_true rfl)).trans Iff.rfl
/-- M.readLine -/
theorem e164 {d : Nat} {a : Nat} {h : Hp} {Q : Option AV → Hp → Prop} : Wc d 164 [.inr (.inr (some a))] h Q ↔ Wp d 164 Bk164_0 [some (.inr (.inr (some a)))] [] h Q := (Wc_d (Nat.le_of_ble_eq_true rfl)).trans Iff.rfl
/-- M.lines -/
theorem e165 {d : Nat} {a : Nat} {x0 : Int32} {h : Hp} {Q : Option AV → Hp → Prop} : Wc d 165 [.inr (.inr (some a)), .inl x0] h Q ↔ Wp d 165 Bk165_0 [some (.inr (.inr (some a))), some (.inl x0), none] [] h Q := (Wc_d (Nat.le_of_ble_eq_true rfl)).trans Iff.rfl
/-- M.fault -/
theorem e166 {d : Nat} {a : Nat} {x0 : Int32} {h : Hp} {Q : Option AV → Hp → Prop} : Wc d 166 [.inr (.inr (some a)), .inl x0] h Q ↔ Wp d 166 Bk166_0 [some (.inr (.inr (some a))), some (.inl x0)] [] h Q := (Wc_d (Nat.le_of_ble_eq_true rfl)).trans Iff.rfl
/-- M.way -/
theorem e167 {d : Nat} {a : Nat} {x0 : Int32} {h : Hp} {Q : Option AV → Hp → Prop} : Wc d 167 [.inr (.inr (some a)), .inl x0] h Q ↔ Wp d 167 Bk167_0 [some (.inr (.inr (some a))), some (.inl x0), none] [] h Q := (Wc_d (Nat.le_of_ble_eq_true rfl)).trans Iff.rfl
/-- M.minutes -/
theorem e168 {d : Nat} {a : Nat} {x0 : Int32} {h : Hp} {Q : Option AV → Hp → Prop} : Wc d 168 [.inr (.inr (some a)), .inl x0] h Q ↔ Wp d 168 Bk168_0 [some (.inr (.inr (some a))), some (.inl x0), none] [] h Q := (Wc_d (Nat.le_of_ble_eq_true rfl)).trans Iff.rfl
/-- M.worthOf -/
theorem e169 {d : Nat} {a : Nat} {x0 : Int32} {x1 : Int32} {h : Hp} {Q : Option AV → Hp → Prop} : Wc d 169 [.inr (.inr (some a)), .inl x0, .inl x1] h Q ↔ Wp d 169 Bk169_0 [some (.inr (.inr (some a))), some (.inl x0), some (.inl x1), none] [] h Q := (Wc_d (Nat.le_of_ble_eq_true rfl)).trans Iff.rfl
/-- M.lineHolds -/
theorem e170 {d : Nat} {a : Nat} {x0 : Int32} {x1 : Int32} {x2 : Int32} {h : Hp} {Q : Option AV → Hp → Prop} : Wc d 170 [.inr (.inr (some a)), .inl x0, .inl x1, .inl x2] h Q ↔ Wp d 170 Bk170_0 [some (.inr (.inr (some a))), some (.inl x0), some (.inl x1), some (.inl x2), none, none, none, none, none, none] [] h Q := (Wc_d (Nat.le_of_ble_eq_true rfl)).trans Iff.rfl
/-- M.sampleAt -/
theorem e171 {d : Nat} {a : Nat} {x0 : Int32} {h : Hp} {Q : Option AV → Hp → Prop} : Wc d 171 [.inr (.inr (some a)), .inl x0] h Q ↔ Wp d 171 Bk171_0 [some (.inr (.inr (some a))), some (.inl x0), none] [] h Q := (Wc_d (Nat.le_of_ble_eq_true rfl)).trans Iff.rfl
/-- M.takes -/
theorem e172 {d : Nat} {a : Nat} {x0 : Int32} {x1 : Int32} {h : Hp} {Q : Option AV → Hp → Prop} : Wc d 172 [.inr (.inr (some a)), .inl x0, .inl x1] h Q ↔ Wp d 172 Bk172_0 [some (.inr (.inr (some a))), some (.inl x0), some (.inl x1), none, none, none] [] h Q := (Wc_d (Nat.le_of_ble_eq_true rfl)).trans Iff.rfl
/-- M.parted -/
theorem e173 {d : Nat} {a : Nat} {x0 : Int32} {h : Hp} {Q : Option AV → Hp → Prop} : Wc d 173 [.inr (.inr (some a)), .inl x0] h Q ↔ Wp d 173 Bk173_0 [some (.inr (.inr (some a))), some (.inl x0), none, none] [] h Q := (Wc_d (Nat.le_of_ble_eq_true rfl)).trans Iff.rfl
/-- M.does -/
theorem e174 {d : Nat} {a : Nat} {x0 : Int32} {h : Hp} {Q : Option AV → Hp → Prop} : Wc d 174 [.inr (.inr (some a)), .inl x0] h Q ↔ Wp d 174 Bk174_0 [some (.inr (.inr (some a))), some (.inl x0), none, none] [] h Q := (Wc_d (Nat.le_of_ble_eq_true rfl)).trans Iff.rfl
/-- M.rest -/
theorem e175 {d : Nat} {a : Nat} {x0 : Int32} {h : Hp} {Q : Option AV → Hp → Prop} : Wc d 175 [.inr (.inr (some a)), .inl x0] h Q ↔ Wp d 175 Bk175_0 [some (.inr (.inr (some a))), some (.inl x0)] [] h Q := (Wc_d (Nat.le_of_ble_eq_true rfl)).trans Iff.rfl
/-- M.keptMany -/
theorem e176 {d : Nat} {a : Nat} {h : Hp} {Q : Option AV → Hp → Prop} : Wc d 176 [.inr (.inr (some a))] h Q ↔ Wp d 176 Bk176_0 [some (.inr (.inr (some a))), none, none] [] h Q := (Wc_d (Nat.le_of_ble_eq_true rfl)).trans Iff.rfl
/-- M.use -/
theorem e177 {d : Nat} {a : Nat} {x0 : Int32} {x1 : Int32} {h : Hp} {Q : Option AV → Hp → Prop} : Wc d 177 [.inr (.inr (some a)), .inl x0, .inl x1] h Q ↔ Wp d 177 Bk177_0 [some (.inr (.inr (some a))), some (.inl x0), some (.inl x1)] [] h Q := (Wc_d (Nat.le_of_ble_eq_true rfl)).trans Iff.rfl
/-- M.leftMany -/
theorem e178 {d : Nat} {a : Nat} {h : Hp} {Q : Option AV → Hp → Prop} : Wc d 178 [.inr (.inr (some a))] h Q ↔ Wp d 178 Bk178_0 [some (.inr (.inr (some a))), none, none] [] h Q := (Wc_d (Nat.le_of_ble_eq_true rfl)).trans Iff.rfl
/-- M.takeUp -/
theorem e179 {d : Nat} {a : Nat} {x0 : Int32} {h : Hp} {Q : Option AV → Hp → Prop} : Wc d 179 [.inr (.inr (some a)), .inl x0] h Q ↔ Wp d 179 Bk179_0 [some (.inr (.inr (some a))), some (.inl x0)] [] h Q := (Wc_d (Nat.le_of_ble_eq_true rfl)).trans Iff.rfl
/-- M.readings -/
theorem e180 {d : Nat} {a : Nat} {x0 : Int32} {x1 : Int32} {h : Hp} {Q : Option AV → Hp → Prop} : Wc d 180 [.inr (.inr (some a)), .inl x0, .inl x1] h Q ↔ Wp d 180 Bk180_0 [some (.inr (.inr (some a))), some (.inl x0), some (.inl x1), none, none] [] h Q := (Wc_d (Nat.le_of_ble_eq_true rfl)).trans Iff.rfl
/-- M.lasts -/
theorem e181 {d : Nat} {a : Nat} {x0 : Int32} {h : Hp} {Q : Option AV → Hp → Prop} : Wc d 181 [.inr (.inr (some a)), .inl x0] h Q ↔ Wp d 181 Bk181_0 [some (.inr (.inr (some a))), some (.inl x0), none, none] [] h Q := (Wc_d (Nat.le_of_ble_eq_true rfl)).trans Iff.rfl
/-- M.canBegin -/
theorem e182 {d : Nat} {a : Nat} {x0 : Int32} {x1 : Int32} {x2 : Int32} {h : Hp} {Q : Option AV → Hp → Prop} : Wc d 182 [.inr (.inr (some a)), .inl x0, .inl x1, .inl x2] h Q ↔ Wp d 182 Bk182_0 [some (.inr (.inr (some a))), some (.inl x0), some (.inl x1), some (.inl x2), none, none, none] [] h Q := (Wc_d (Nat.le_of_ble_eq_true rfl)).trans Iff.rfl
/-- M.findFirst -/
theorem e183 {d : Nat} {a : Nat} {h : Hp} {Q : Option AV → Hp → Prop} : Wc d 183 [.inr (.inr (some a))] h Q ↔ Wp d 183 Bk183_0 [some (.inr (.inr (some a))), none, none, none, none] [] h Q := (Wc_d (Nat.le_of_ble_eq_true rfl)).trans Iff.rfl
/-- M.sizeOf -/
theorem e184 {d : Nat} {x0 : Int32} {h : Hp} {Q : Option AV → Hp → Prop} : Wc d 184 [.inl x0] h Q ↔ Wp d 184 Bk184_0 [some (.inl x0)] [] h Q := (Wc_d (Nat.le_of_ble_eq_true rfl)).trans Iff.rfl
/-- M.hours -/
theorem e185 {d : Nat} {a : Nat} {x0 : Int32} {x1 : Int32} {x2 : Int32} {h : Hp} {Q : Option AV → Hp → Prop} : Wc d 185 [.inr (.inr (some a)), .inl x0, .inl x1, .inl x2] h Q ↔ Wp d 185 Bk185_0 [some (.inr (.inr (some a))), some (.inl x0), some (.inl x1), some (.inl x2)] [] h Q := (Wc_d (Nat.le_of_ble_eq_true rfl)).trans Iff.rfl
/-- M.fitsRow -/
theorem e186 {d : Nat} {a : Nat} {x0 : Int32} {x1 : Int32} {h : Hp} {Q : Option AV → Hp → Prop} : Wc d 186 [.inr (.inr (some a)), .inl x0, .inl x1] h Q ↔ Wp d 186 Bk186_0 [some (.inr (.inr (some a))), some (.inl x0), some (.inl x1), none, none, none] [] h Q := (Wc_d (Nat.le_of_ble_eq_true rfl)).trans Iff.rfl
/-- M.keepRow -/
theorem e187 {d : Nat} {a : Nat} {x0 : Int32} {x1 : Int32} {h : Hp} {Q : Option AV → Hp → Prop} : Wc d 187 [.inr (.inr (some a)), .inl x0, .inl x1] h Q ↔ Wp d 187 Bk187_0 [some (.inr (.inr (some a))), some (.inl x0), some (.inl x1), none] [] h Q := (Wc_d (Nat.le_of_ble_eq_true rfl)).trans Iff.rfl
/-- M.rowWorth -/
theorem e188 {d : Nat} {a : Nat} {x0 : Int32} {h : Hp} {Q : Option AV → Hp → Prop} : Wc d 188 [.inr (.inr (some a)), .inl x0] h Q ↔ Wp d 188 Bk188_0 [some (.inr (.inr (some a))), some (.inl x0), none, none] [] h Q := (Wc_d (Nat.le_of_ble_eq_true rfl)).trans Iff.rfl
/-- M.findPlan -/
theorem e189 {d : Nat} {a : Nat} {h : Hp} {Q : Option AV → Hp → Prop} : Wc d 189 [.inr (.inr (some a))] h Q ↔ Wp d 189 Bk189_0 [some (.inr (.inr (some a))), none, none] [] h Q := (Wc_d (Nat.le_of_ble_eq_true rfl)).trans Iff.rfl
/-- M.plan -/
theorem e190 {d : Nat} {a : Nat} {x0 : Int32} {h : Hp} {Q : Option AV → Hp → Prop} : Wc d 190 [.inr (.inr (some a)), .inl x0] h Q ↔ Wp d 190 Bk190_0 [some (.inr (.inr (some a))), some (.inl x0)] [] h Q := (Wc_d (Nat.le_of_ble_eq_true rfl)).trans Iff.rfl
/-- M.planned -/
theorem e191 {d : Nat} {a : Nat} {x0 : Int32} {x1 : Int32} {h : Hp} {Q : Option AV → Hp → Prop} : Wc d 191 [.inr (.inr (some a)), .inl x0, .inl x1] h Q ↔ Wp d 191 Bk191_0 [some (.inr (.inr (some a))), some (.inl x0), some (.inl x1)] [] h Q := (Wc_d (Nat.le_of_ble_eq_true rfl)).trans Iff.rfl
/-- M.nearest -/
theorem e192 {d : Nat} {a : Nat} {x0 : Int32} {h : Hp} {Q : Option AV → Hp → Prop} : Wc d 192 [.inr (.inr (some a)), .inl x0] h Q ↔ Wp d 192 Bk192_0 [some (.inr (.inr (some a))), some (.inl x0), none, none, none] [] h Q := (Wc_d (Nat.le_of_ble_eq_true rfl)).trans Iff.rfl
/-- M.stationTold -/
theorem e193 {d : Nat} {a : Nat} {x0 : Int32} {x1 : Int32} {h : Hp} {Q : Option AV → Hp → Prop} : Wc d 193 [.inr (.inr (some a)), .inl x0, .inl x1] h Q ↔ Wp d 193 Bk193_0 [some (.inr (.inr (some a))), some (.inl x0), some (.inl x1)] [] h Q := (Wc_d (Nat.le_of_ble_eq_true rfl)).trans Iff.rfl
/-- M.castTold -/
theorem e194 {d : Nat} {a : Nat} {x0 : Int32} {x1 : Int32} {h : Hp} {Q : Option AV → Hp → Prop} : Wc d 194 [.inr (.inr (some a)), .inl x0, .inl x1] h Q ↔ Wp d 194 Bk194_0 [some (.inr (.inr (some a))), some (.inl x0), some (.inl x1)] [] h Q := (Wc_d (Nat.le_of_ble_eq_true rfl)).trans Iff.rfl
/-- M.bottleTold -/
theorem e195 {d : Nat} {a : Nat} {x0 : Int32} {x1 : Int32} {x2 : Int32} {h : Hp} {Q : Option AV → Hp → Prop} : Wc d 195 [.inr (.inr (some a)), .inl x0, .inl x1, .inl x2] h Q ↔ Wp d 195 Bk195_0 [some (.inr (.inr (some a))), some (.inl x0), some (.inl x1), some (.inl x2), none] [] h Q := (Wc_d (Nat.le_of_ble_eq_true rfl)).trans Iff.rfl
/-- M.sample -/
theorem e196 {d : Nat} {a : Nat} {x0 : Int32} {x1 : Int32} {h : Hp} {Q : Option AV → Hp → Prop} : Wc d 196 [.inr (.inr (some a)), .inl x0, .inl x1] h Q ↔ Wp d 196 Bk196_0 [some (.inr (.inr (some a))), some (.inl x0), some (.inl x1), none] [] h Q := (Wc_d (Nat.le_of_ble_eq_true rfl)).trans Iff.rfl
/-- M.box -/
theorem e197 {d : Nat} {a : Nat} {x0 : Int32} {x1 : Int32} {h : Hp} {Q : Option AV → Hp → Prop} : Wc d 197 [.inr (.inr (some a)), .inl x0, .inl x1] h Q ↔ Wp d 197 Bk197_0 [some (.inr (.inr (some a))), some (.inl x0), some (.inl x1)] [] h Q := (Wc_d (Nat.le_of_ble_eq_true rfl)).trans Iff.rfl
/-- M.water -/
theorem e198 {d : Nat} {a : Nat} {x0 : Int32} {x1 : Int32} {h : Hp} {Q : Option AV → Hp → Prop} : Wc d 198 [.inr (.inr (some a)), .inl x0, .inl x1] h Q ↔ Wp d 198 Bk198_0 [some (.inr (.inr (some a))), some (.inl x0), some (.inl x1), none, none] [] h Q := (Wc_d (Nat.le_of_ble_eq_true rfl)).trans Iff.rfl
/-- M.divisor -/
theorem e199 {d : Nat} {x0 : Int32} {x1 : Int32} {h : Hp} {Q : Option AV → Hp → Prop} : Wc d 199 [.inl x0, .inl x1] h Q ↔ Wp d 199 Bk199_0 [some (.inl x0), some (.inl x1), none, none, none] [] h Q := (Wc_d (Nat.le_of_ble_eq_true rfl)).trans Iff.rfl
/-- M.mean -/
theorem e200 {d : Nat} {a : Nat} {x0 : Int32} {x1 : Int32} {x2 : Int32} {x3 : Int32} {h : Hp} {Q : Option AV → Hp → Prop} : Wc d 200 [.inr (.inr (some a)), .inl x0, .inl x1, .inl x2, .inl x3] h Q ↔ Wp d 200 Bk200_0 [some (.inr (.inr (some a))), some (.inl x0), some (.inl x1), some (.inl x2), some (.inl x3), none, none, none, none, none, none] [] h Q := (Wc_d (Nat.le_of_ble_eq_true rfl)).trans Iff.rfl
/-- M.allLines -/
theorem e201 {d : Nat} {a : Nat} {h : Hp} {Q : Option AV → Hp → Prop} : Wc d 201 [.inr (.inr (some a))] h Q ↔ Wp d 201 Bk201_0 [some (.inr (.inr (some a))), none, none] [] h Q := (Wc_d (Nat.le_of_ble_eq_true rfl)).trans Iff.rfl
/-- M.count -/
theorem e202 {d : Nat} {a : Nat} {x0 : Int32} {h : Hp} {Q : Option AV → Hp → Prop} : Wc d 202 [.inr (.inr (some a)), .inl x0] h Q ↔ Wp d 202 Bk202_0 [some (.inr (.inr (some a))), some (.inl x0)] [] h Q := (Wc_d (Nat.le_of_ble_eq_true rfl)).trans Iff.rfl
/-- M.ran -/
theorem e203 {d : Nat} {a : Nat} {x0 : Int32} {h : Hp} {Q : Option AV → Hp → Prop} : Wc d 203 [.inr (.inr (some a)), .inl x0] h Q ↔ Wp d 203 Bk203_0 [some (.inr (.inr (some a))), some (.inl x0)] [] h Q := (Wc_d (Nat.le_of_ble_eq_true rfl)).trans Iff.rfl
/-- M.plainDown -/
theorem e204 {d : Nat} {a : Nat} {x0 : Int32} {x1 : Int32} {h : Hp} {Q : Option AV → Hp → Prop} : Wc d 204 [.inr (.inr (some a)), .inl x0, .inl x1] h Q ↔ Wp d 204 Bk204_0 [some (.inr (.inr (some a))), some (.inl x0), some (.inl x1)] [] h Q := (Wc_d (Nat.le_of_ble_eq_true rfl)).trans Iff.rfl
/-- M.down0 -/
theorem e205 {d : Nat} {a : Nat} {x0 : Int32} {x1 : Int32} {h : Hp} {Q : Option AV → Hp → Prop} : Wc d 205 [.inr (.inr (some a)), .inl x0, .inl x1] h Q ↔ Wp d 205 Bk205_0 [some (.inr (.inr (some a))), some (.inl x0), some (.inl x1)] [] h Q := (Wc_d (Nat.le_of_ble_eq_true rfl)).trans Iff.rfl
/-- M.plainUp -/
theorem e206 {d : Nat} {a : Nat} {x0 : Int32} {x1 : Int32} {h : Hp} {Q : Option AV → Hp → Prop} : Wc d 206 [.inr (.inr (some a)), .inl x0, .inl x1] h Q ↔ Wp d 206 Bk206_0 [some (.inr (.inr (some a))), some (.inl x0), some (.inl x1)] [] h Q := (Wc_d (Nat.le_of_ble_eq_true rfl)).trans Iff.rfl
/-- M.coreUp -/
theorem e207 {d : Nat} {a : Nat} {x0 : Int32} {x1 : Int32} {h : Hp} {Q : Option AV → Hp → Prop} : Wc d 207 [.inr (.inr (some a)), .inl x0, .inl x1] h Q ↔ Wp d 207 Bk207_0 [some (.inr (.inr (some a))), some (.inl x0), some (.inl x1), none] [] h Q := (Wc_d (Nat.le_of_ble_eq_true rfl)).trans Iff.rfl
/-- M.up0 -/
theorem e208 {d : Nat} {a : Nat} {x0 : Int32} {x1 : Int32} {h : Hp} {Q : Option AV → Hp → Prop} : Wc d 208 [.inr (.inr (some a)), .inl x0, .inl x1] h Q ↔ Wp d 208 Bk208_0 [some (.inr (.inr (some a))), some (.inl x0), some (.inl x1), none] [] h Q := (Wc_d (Nat.le_of_ble_eq_true rfl)).trans Iff.rfl
/-- M.shut0 -/
theorem e209 {d : Nat} {a : Nat} {x0 : Int32} {x1 : Int32} {h : Hp} {Q : Option AV → Hp → Prop} : Wc d 209 [.inr (.inr (some a)), .inl x0, .inl x1] h Q ↔ Wp d 209 Bk209_0 [some (.inr (.inr (some a))), some (.inl x0), some (.inl x1), none] [] h Q := (Wc_d (Nat.le_of_ble_eq_true rfl)).trans Iff.rfl
/-- M.plainTell -/
theorem e210 {d : Nat} {a : Nat} {x0 : Int32} {x1 : Int32} {h : Hp} {Q : Option AV → Hp → Prop} : Wc d 210 [.inr (.inr (some a)), .inl x0, .inl x1] h Q ↔ Wp d 210 Bk210_0 [some (.inr (.inr (some a))), some (.inl x0), some (.inl x1), none] [] h Q := (Wc_d (Nat.le_of_ble_eq_true rfl)).trans Iff.rfl
/-- M.tell0 -/
theorem e211 {d : Nat} {a : Nat} {x0 : Int32} {x1 : Int32} {h : Hp} {Q : Option AV → Hp → Prop} : Wc d 211 [.inr (.inr (some a)), .inl x0, .inl x1] h Q ↔ Wp d 211 Bk211_0 [some (.inr (.inr (some a))), some (.inl x0), some (.inl x1), none] [] h Q := (Wc_d (Nat.le_of_ble_eq_true rfl)).trans Iff.rfl
/-- M.act -/
theorem e212 {d : Nat} {a : Nat} {x0 : Int32} {x1 : Int32} {x2 : Int32} {h : Hp} {Q : Option AV → Hp → Prop} : Wc d 212 [.inr (.inr (some a)), .inl x0, .inl x1, .inl x2] h Q ↔ Wp d 212 Bk212_0 [some (.inr (.inr (some a))), some (.inl x0), some (.inl x1), some (.inl x2)] [] h Q := (Wc_d (Nat.le_of_ble_eq_true rfl)).trans Iff.rfl
/-- M.trace -/
theorem e213 {d : Nat} {a : Nat} {x0 : Int32} {h : Hp} {Q : Option AV → Hp → Prop} : Wc d 213 [.inr (.inr (some a)), .inl x0] h Q ↔ Wp d 213 Bk213_0 [some (.inr (.inr (some a))), some (.inl x0)] [] h Q := (Wc_d (Nat.le_of_ble_eq_true rfl)).trans Iff.rfl
/-- M.sheet -/
theorem e214 {d : Nat} {a : Nat} {x0 : Int32} {x1 : Int32} {x2 : Int32} {h : Hp} {Q : Option AV → Hp → Prop} : Wc d 214 [.inr (.inr (some a)), .inl x0, .inl x1, .inl x2] h Q ↔ Wp d 214 Bk214_0 [some (.inr (.inr (some a))), some (.inl x0), some (.inl x1), some (.inl x2), none] [] h Q := (Wc_d (Nat.le_of_ble_eq_true rfl)).trans Iff.rfl
/-- M.cell -/
theorem e215 {d : Nat} {a : Nat} {x0 : Int32} {x1 : Int32} {x2 : Int32} {h : Hp} {Q : Option AV → Hp → Prop} : Wc d 215 [.inr (.inr (some a)), .inl x0, .inl x1, .inl x2] h Q ↔ Wp d 215 Bk215_0 [some (.inr (.inr (some a))), some (.inl x0), some (.inl x1), some (.inl x2)] [] h Q := (Wc_d (Nat.le_of_ble_eq_true rfl)).trans Iff.rfl
/-- M.none -/
theorem e216 {d : Nat} {a : Nat} {x0 : Int32} {x1 : Int32} {h : Hp} {Q : Option AV → Hp → Prop} : Wc d 216 [.inr (.inr (some a)), .inl x0, .inl x1] h Q ↔ Wp d 216 Bk216_0 [some (.inr (.inr (some a))), some (.inl x0), some (.inl x1)] [] h Q := (Wc_d (Nat.le_of_ble_eq_true rfl)).trans Iff.rfl
/-- M.modulo -/
theorem e217 {d : Nat} {x0 : Int32} {x1 : Int32} {h : Hp} {Q : Option AV → Hp → Prop} : Wc d 217 [.inl x0, .inl x1] h Q ↔ Wp d 217 Bk217_0 [some (.inl x0), some (.inl x1)] [] h Q := (Wc_d (Nat.le_of_ble_eq_true rfl)).trans Iff.rfl
/-- M.castTaken -/
theorem e218 {d : Nat} {a : Nat} {x0 : Int32} {x1 : Int32} {h : Hp} {Q : Option AV → Hp → Prop} : Wc d 218 [.inr (.inr (some a)), .inl x0, .inl x1] h Q ↔ Wp d 218 Bk218_0 [some (.inr (.inr (some a))), some (.inl x0), some (.inl x1)] [] h Q := (Wc_d (Nat.le_of_ble_eq_true rfl)).trans Iff.rfl
/-- M.copied -/
theorem e219 {d : Nat} {a : Nat} {x0 : Int32} {x1 : Int32} {h : Hp} {Q : Option AV → Hp → Prop} : Wc d 219 [.inr (.inr (some a)), .inl x0, .inl x1] h Q ↔ Wp d 219 Bk219_0 [some (.inr (.inr (some a))), some (.inl x0), some (.inl x1), none, none] [] h Q := (Wc_d (Nat.le_of_ble_eq_true rfl)).trans Iff.rfl
/-- M.forge -/
theorem e220 {d : Nat} {a : Nat} {x0 : Int32} {x1 : Int32} {x2 : Int32} {h : Hp} {Q : Option AV → Hp → Prop} : Wc d 220 [.inr (.inr (some a)), .inl x0, .inl x1, .inl x2] h Q ↔ Wp d 220 Bk220_0 [some (.inr (.inr (some a))), some (.inl x0), some (.inl x1), some (.inl x2), none, none] [] h Q := (Wc_d (Nat.le_of_ble_eq_true rfl)).trans Iff.rfl
/-- M.status -/
theorem e221 {d : Nat} {a : Nat} {h : Hp} {Q : Option AV → Hp → Prop} : Wc d 221 [.inr (.inr (some a))] h Q ↔ Wp d 221 Bk221_0 [some (.inr (.inr (some a)))] [] h Q := (Wc_d (Nat.le_of_ble_eq_true rfl)).trans Iff.rfl
/-- Math.floorMod -/
theorem e222 {d : Nat} {x0 : Int32} {x1 : Int32} {h : Hp} {Q : Option AV → Hp → Prop} : Wc d 222 [.inl x0, .inl x1] h Q ↔ Wp d 222 Bk222_0 [some (.inl x0), some (.inl x1), none] [] h Q := (Wc_d (Nat.le_of_ble_eq_true rfl)).trans Iff.rfl
/-- Math.abs -/
theorem e223 {d : Nat} {x0 : Int32} {h : Hp} {Q : Option AV → Hp → Prop} : Wc d 223 [.inl x0] h Q ↔ Wp d 223 Bk223_0 [some (.inl x0)] [] h Q := (Wc_d (Nat.le_of_ble_eq_true rfl)).trans Iff.rfl
/-- Math.max -/
theorem e224 {d : Nat} {x0 : Int32} {x1 : Int32} {h : Hp} {Q : Option AV → Hp → Prop} : Wc d 224 [.inl x0, .inl x1] h Q ↔ Wp d 224 Bk224_0 [some (.inl x0), some (.inl x1)] [] h Q := (Wc_d (Nat.le_of_ble_eq_true rfl)).trans Iff.rfl
/-- Math.min -/
theorem e225 {d : Nat} {x0 : Int32} {x1 : Int32} {h : Hp} {Q : Option AV → Hp → Prop} : Wc d 225 [.inl x0, .inl x1] h Q ↔ Wp d 225 Bk225_0 [some (.inl x0), some (.inl x1)] [] h Q := (Wc_d (Nat.le_of_ble_eq_true rfl)).trans Iff.rfl
/-- String.length -/
theorem e226 {d : Nat} {a : Nat} {h : Hp} {Q : Option AV → Hp → Prop} : Wc d 226 [.inr (.inr (some a))] h Q ↔ Wp d 226 Bk226_0 [some (.inr (.inr (some a)))] [] h Q := (Wc_d (Nat.le_of_ble_eq_true rfl)).trans Iff.rfl
/-- String.charAt -/
theorem e227 {d : Nat} {a : Nat} {x0 : Int32} {h : Hp} {Q : Option AV → Hp → Prop} : Wc d 227 [.inr (.inr (some a)), .inl x0] h Q ↔ Wp d 227 Bk227_0 [some (.inr (.inr (some a))), some (.inl x0)] [] h Q := (Wc_d (Nat.le_of_ble_eq_true rfl)).trans Iff.rfl
/-- String.coder -/
theorem e228 {d : Nat} {a : Nat} {h : Hp} {Q : Option AV → Hp → Prop} : Wc d 228 [.inr (.inr (some a))] h Q ↔ Wp d 228 Bk228_0 [some (.inr (.inr (some a)))] [] h Q := (Wc_d (Nat.le_of_ble_eq_true rfl)).trans Iff.rfl
/-- String.isLatin1 -/
theorem e229 {d : Nat} {a : Nat} {h : Hp} {Q : Option AV → Hp → Prop} : Wc d 229 [.inr (.inr (some a))] h Q ↔ Wp d 229 Bk229_0 [some (.inr (.inr (some a)))] [] h Q := (Wc_d (Nat.le_of_ble_eq_true rfl)).trans Iff.rfl
/-- String.checkIndex -/
theorem e230 {d : Nat} {x0 : Int32} {x1 : Int32} {h : Hp} {Q : Option AV → Hp → Prop} : Wc d 230 [.inl x0, .inl x1] h Q ↔ Wp d 230 Bk230_0 [some (.inl x0), some (.inl x1)] [] h Q := (Wc_d (Nat.le_of_ble_eq_true rfl)).trans Iff.rfl
/-- Latin.charAt -/
theorem e231 {d : Nat} {x0 : Option Nat} {x1 : Int32} {h : Hp} {Q : Option AV → Hp → Prop} : Wc d 231 [.inr (.inr x0), .inl x1] h Q ↔ Wp d 231 Bk231_0 [some (.inr (.inr x0)), some (.inl x1)] [] h Q := (Wc_d (Nat.le_of_ble_eq_true rfl)).trans Iff.rfl
/-- Arrays.rangeCheck -/
theorem e232 {d : Nat} {x0 : Int32} {x1 : Int32} {x2 : Int32} {h : Hp} {Q : Option AV → Hp → Prop} : Wc d 232 [.inl x0, .inl x1, .inl x2] h Q ↔ Wp d 232 Bk232_0 [some (.inl x0), some (.inl x1), some (.inl x2)] [] h Q := (Wc_d (Nat.le_of_ble_eq_true rfl)).trans Iff.rfl
/-- Arrays.fill -/
theorem e233 {d : Nat} {x0 : Option Nat} {x1 : Int32} {h : Hp} {Q : Option AV → Hp → Prop} : Wc d 233 [.inr (.inr x0), .inl x1] h Q ↔ Wp d 233 Bk233_0 [some (.inr (.inr x0)), some (.inl x1), none, none] [] h Q := (Wc_d (Nat.le_of_ble_eq_true rfl)).trans Iff.rfl
/-- Arrays.fill4 -/
theorem e234 {d : Nat} {x0 : Option Nat} {x1 : Int32} {x2 : Int32} {x3 : Int32} {h : Hp} {Q : Option AV → Hp → Prop} : Wc d 234 [.inr (.inr x0), .inl x1, .inl x2, .inl x3] h Q ↔ Wp d 234 Bk234_0 [some (.inr (.inr x0)), some (.inl x1), some (.inl x2), some (.inl x3), none] [] h Q := (Wc_d (Nat.le_of_ble_eq_true rfl)).trans Iff.rfl
/-- Pre.checkIndex -/
theorem e235 {d : Nat} {x0 : Int32} {x1 : Int32} {x2 : Option Nat} {h : Hp} {Q : Option AV → Hp → Prop} : Wc d 235 [.inl x0, .inl x1, .inr (.inr x2)] h Q ↔ Wp d 235 Bk235_0 [some (.inl x0), some (.inl x1), some (.inr (.inr x2))] [] h Q := (Wc_d (Nat.le_of_ble_eq_true rfl)).trans Iff.rfl
/-- W.law -/
theorem e236 {d : Nat} {x0 : Option Nat} {h : Hp} {Q : Option AV → Hp → Prop} : Wc d 236 [.inr (.inr x0)] h Q ↔ Wp d 236 Bk236_0 [some (.inr (.inr x0)), none, none, none] [] h Q := (Wc_d (Nat.le_of_ble_eq_true rfl)).trans Iff.rfl
